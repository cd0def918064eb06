theorem L1_L_law__1429 {g : AxG} {l : Launch} (hl0 : l.stackTraces = false) {S9 : AxS} (N : Nat) (b9 : Nat) (L9 : Nat) (xs9 : Nat → Int32) (hsc : g.2.2.2.2.2.1 = b9 ∧ g.2.2.2.2.2.2.1 = L9 ∧ g.2.2.2.2.2.2.2.1 = xs9) (n23 : Nat) (K23 : Nat → Nat → Nat → Int32 → AxS → Option (Int32 × AxS)) (hK23 : ∀ (v1 : Nat) (v2 : Nat) (v3 : Nat) (v4 : Int32) (S : AxS) (k9 n9 : Nat) (hk9 : k9 + 1 * (n23) ≤ 601024) (hn9 : n9 + 6 * (n23) ≤ 7293034), K23 v1 v2 v3 v4 S = some ((1, S9)) → AW g l room_1 mt_L_law_ (axLQ g) k9 n9 S 23 [(0, .ref b9), (1, .ref v1), (2, .ref v2), (3, .ref v3), (4, .int v4)] []) (v1 : Nat) (v2 : Nat) (v3 : Nat) (v4 : Int32) (S : AxS) (k9 n9 : Nat) (hk9 : k9 + 1 * (n23) ≤ 601024) (hn9 : n9 + 6 * (n23) ≤ 7293034) (h : F_L_law__1429 N L9 xs9 K23 v1 v2 v3 v4 S = some ((1, S9))) : AW g l room_1 mt_L_law_ (axLQ g) k9 n9 S 1429 [(0, .ref b9), (1, .ref v1), (2, .ref v2), (3, .ref v3), (4, .int v4)] [] := by
  unfold F_L_law__1429 at h
  refine aw_goto 2507 dL_law__1429 (by decide) ?_
  refine aw_env [(0, .ref b9), (1, .ref v1), (2, .ref v2), (3, .ref v3), (4, .int v4)] [0, 1, 2, 3, 4] rfl ?_
  exact L1_L_law__2507 hl0 N b9 L9 xs9 hsc n23 K23 hK23 v1 v2 v3 v4 S _ _ (by omega) (by omega) h
theorem L1_L_law__1376 {g : AxG} {l : Launch} (hl0 : l.stackTraces = false) {S9 : AxS} (N : Nat) (b9 : Nat) (L9 : Nat) (xs9 : Nat → Int32) (hsc : g.2.2.2.2.2.1 = b9 ∧ g.2.2.2.2.2.2.1 = L9 ∧ g.2.2.2.2.2.2.2.1 = xs9) (n23 : Nat) (K23 : Nat → Nat → Nat → Int32 → AxS → Option (Int32 × AxS)) (hK23 : ∀ (v1 : Nat) (v2 : Nat) (v3 : Nat) (v4 : Int32) (S : AxS) (k9 n9 : Nat) (hk9 : k9 + 1 * (n23) ≤ 601024) (hn9 : n9 + 6 * (n23) ≤ 7293034), K23 v1 v2 v3 v4 S = some ((1, S9)) → AW g l room_1 mt_L_law_ (axLQ g) k9 n9 S 23 [(0, .ref b9), (1, .ref v1), (2, .ref v2), (3, .ref v3), (4, .int v4)] []) (v1 : Nat) (v2 : Nat) (v3 : Nat) (v4 : Int32) (S : AxS) (k9 n9 : Nat) (hk9 : k9 + 1 * (n23 + 1) ≤ 601024) (hn9 : n9 + 6 * (n23 + 1) ≤ 7293034) (h : F_L_law__1376 N L9 xs9 K23 v1 v2 v3 v4 S = some ((1, S9))) : AW g l room_1 mt_L_law_ (axLQ g) k9 n9 S 1376 [(0, .ref b9), (1, .ref v1), (2, .ref v2), (3, .ref v3), (4, .int v4)] [] := by
  unfold F_L_law__1376 at h
  refine aw_aload_n 1 dL_law__1376 rfl rfl ?_
  refine aw_aload_n 0 dL_law__1377 rfl rfl ?_
  refine aw_iload 4 dL_law__1378 rfl ?_
  refine aw_iconst 1 dL_law__1380 rfl ?_
  refine aw_iadd dL_law__1381 ?_
  refine aw_sld hsc dL_law__1382 h (fun x1 h => ?_)
  refine aw_aload_n 3 dL_law__1383 rfl rfl ?_
  refine aw_doneI (rest := []) h (fun r9 S9 hF => aw_runSH (As := [.ref v1, .int x1, .ref v3]) (rest := []) (L1_L_fits hl0 N hF) wd_1071 wd_1069 wd_1070 wd_86 pd_L_fits.2 rfl (ax_rmL rfl rfl) (ax_hfLw (by omega) (by omega)) (Nat.le_of_ble_eq_true rfl) rfl dL_law__1384) (fun x3 T2 h => ?_)
  refine aw_istore [(5, .int x3), (0, .ref b9), (1, .ref v1), (2, .ref v2), (3, .ref v3), (4, .int v4)] dL_law__1387 rfl rfl ?_
  refine aw_aload_n 3 dL_law__1389 rfl rfl ?_
  refine aw_aload_n 1 dL_law__1390 rfl rfl ?_
  refine aw_iload 5 dL_law__1391 rfl ?_
  refine aw_iconst 1 dL_law__1393 rfl ?_
  refine aw_iadd dL_law__1394 ?_
  refine aw_sld hsc dL_law__1395 h (fun x4 h => ?_)
  obtain ⟨hL5, h⟩ := ax_is_spec h
  refine aw_doneI (rest := []) h (fun r9 S9 hF => aw_runV (As := [.int x4]) (rest := []) (L1_X10_fits N hF) axc10 hL5 wd_1716 wd_1713 wd_1714 wd_1715 wd_97 pd_X10_fits rfl (ax_rmL rfl rfl) (ax_hfLw (by omega) (by omega)) (Nat.le_of_ble_eq_true rfl) rfl dL_law__1396) (fun x7 T6 h => ?_)
  refine aw_istore [(6, .int x7), (5, .int x3), (0, .ref b9), (1, .ref v1), (2, .ref v2), (3, .ref v3), (4, .int v4)] dL_law__1399 rfl rfl ?_
  refine aw_aload_n 4 dL_law__1401 rfl rfl ?_
  obtain ⟨hL8, h⟩ := ax_is_spec h
  refine aw_doneI (rest := []) h (fun r9 S9 hF => aw_runV (As := []) (rest := []) (L1_X10_thrown N hF) axc10 hL8 wd_1437 wd_1434 wd_1435 wd_1436 wd_97 pd_X10_thrown rfl (ax_rmL rfl rfl) (ax_hfLw (by omega) (by omega)) (Nat.le_of_ble_eq_true rfl) rfl dL_law__1402) (fun x10 T9 h => ?_)
  refine aw_iload 1 dL_law__1405 rfl ?_
  refine aw_icmp_eq 1412 dL_law__1407 (by decide) h (fun h => ?_) (fun h => ?_)
  · refine aw_iload 1 dL_law__1412 rfl ?_
    refine aw_if_ne 1429 dL_law__1414 (by decide) h (fun h => ?_) (fun h => ?_)
    · refine aw_env [(0, .ref b9), (1, .ref v1), (2, .ref v2), (3, .ref v3), (4, .int v4)] [2, 3, 4, 5, 6] rfl ?_
      exact L1_L_law__1429 hl0 N b9 L9 xs9 hsc n23 K23 hK23 v1 v2 v3 v4 T9 _ _ (by omega) (by omega) h
    · refine aw_aload_n 5 dL_law__1417 rfl rfl ?_
      refine aw_iconst 0 dL_law__1418 rfl ?_
      refine aw_lald dL_law__1419 h (fun x11 h => ?_)
      refine aw_iload 0 dL_law__1420 rfl ?_
      refine aw_i2l dL_law__1422 ?_
      refine aw_lcmp dL_law__1423 ?_
      refine aw_if_eq 1429 dL_law__1424 (by decide) h (fun h => ?_) (fun h => ?_)
      · refine aw_env [(0, .ref b9), (1, .ref v1), (2, .ref v2), (3, .ref v3), (4, .int v4)] [2, 3, 4, 5, 6] rfl ?_
        exact L1_L_law__1429 hl0 N b9 L9 xs9 hsc n23 K23 hK23 v1 v2 v3 v4 T9 _ _ (by omega) (by omega) h
      · refine aw_iconst 0 dL_law__1427 rfl ?_
        exact aw_lawret rfl rfl dL_law__1428 (by omega) (by omega) h
  · refine aw_iconst 0 dL_law__1410 rfl ?_
    exact aw_lawret rfl rfl dL_law__1411 (by omega) (by omega) h
theorem L1_L_law__1485 {g : AxG} {l : Launch} (hl0 : l.stackTraces = false) {S9 : AxS} (N : Nat) (b9 : Nat) (L9 : Nat) (xs9 : Nat → Int32) (hsc : g.2.2.2.2.2.1 = b9 ∧ g.2.2.2.2.2.2.1 = L9 ∧ g.2.2.2.2.2.2.2.1 = xs9) (n23 : Nat) (K23 : Nat → Nat → Nat → Int32 → AxS → Option (Int32 × AxS)) (hK23 : ∀ (v1 : Nat) (v2 : Nat) (v3 : Nat) (v4 : Int32) (S : AxS) (k9 n9 : Nat) (hk9 : k9 + 1 * (n23) ≤ 601024) (hn9 : n9 + 6 * (n23) ≤ 7293034), K23 v1 v2 v3 v4 S = some ((1, S9)) → AW g l room_1 mt_L_law_ (axLQ g) k9 n9 S 23 [(0, .ref b9), (1, .ref v1), (2, .ref v2), (3, .ref v3), (4, .int v4)] []) (v1 : Nat) (v2 : Nat) (v3 : Nat) (v4 : Int32) (S : AxS) (k9 n9 : Nat) (hk9 : k9 + 1 * (n23) ≤ 601024) (hn9 : n9 + 6 * (n23) ≤ 7293034) (h : F_L_law__1485 N L9 xs9 K23 v1 v2 v3 v4 S = some ((1, S9))) : AW g l room_1 mt_L_law_ (axLQ g) k9 n9 S 1485 [(0, .ref b9), (1, .ref v1), (2, .ref v2), (3, .ref v3), (4, .int v4)] [] := by
  unfold F_L_law__1485 at h
  refine aw_goto 2507 dL_law__1485 (by decide) ?_
  refine aw_env [(0, .ref b9), (1, .ref v1), (2, .ref v2), (3, .ref v3), (4, .int v4)] [0, 1, 2, 3, 4] rfl ?_
  exact L1_L_law__2507 hl0 N b9 L9 xs9 hsc n23 K23 hK23 v1 v2 v3 v4 S _ _ (by omega) (by omega) h
theorem L1_L_law__1432 {g : AxG} {l : Launch} (hl0 : l.stackTraces = false) {S9 : AxS} (N : Nat) (b9 : Nat) (L9 : Nat) (xs9 : Nat → Int32) (hsc : g.2.2.2.2.2.1 = b9 ∧ g.2.2.2.2.2.2.1 = L9 ∧ g.2.2.2.2.2.2.2.1 = xs9) (n23 : Nat) (K23 : Nat → Nat → Nat → Int32 → AxS → Option (Int32 × AxS)) (hK23 : ∀ (v1 : Nat) (v2 : Nat) (v3 : Nat) (v4 : Int32) (S : AxS) (k9 n9 : Nat) (hk9 : k9 + 1 * (n23) ≤ 601024) (hn9 : n9 + 6 * (n23) ≤ 7293034), K23 v1 v2 v3 v4 S = some ((1, S9)) → AW g l room_1 mt_L_law_ (axLQ g) k9 n9 S 23 [(0, .ref b9), (1, .ref v1), (2, .ref v2), (3, .ref v3), (4, .int v4)] []) (v1 : Nat) (v2 : Nat) (v3 : Nat) (v4 : Int32) (S : AxS) (k9 n9 : Nat) (hk9 : k9 + 1 * (n23 + 1) ≤ 601024) (hn9 : n9 + 6 * (n23 + 1) ≤ 7293034) (h : F_L_law__1432 N L9 xs9 K23 v1 v2 v3 v4 S = some ((1, S9))) : AW g l room_1 mt_L_law_ (axLQ g) k9 n9 S 1432 [(0, .ref b9), (1, .ref v1), (2, .ref v2), (3, .ref v3), (4, .int v4)] [] := by
  unfold F_L_law__1432 at h
  refine aw_aload_n 1 dL_law__1432 rfl rfl ?_
  refine aw_aload_n 0 dL_law__1433 rfl rfl ?_
  refine aw_iload 4 dL_law__1434 rfl ?_
  refine aw_iconst 1 dL_law__1436 rfl ?_
  refine aw_iadd dL_law__1437 ?_
  refine aw_sld hsc dL_law__1438 h (fun x1 h => ?_)
  refine aw_aload_n 3 dL_law__1439 rfl rfl ?_
  refine aw_doneI (rest := []) h (fun r9 S9 hF => aw_runSH (As := [.ref v1, .int x1, .ref v3]) (rest := []) (L1_L_count hl0 N hF) wd_1101 wd_1099 wd_1100 wd_86 pd_L_count.2 rfl (ax_rmL rfl rfl) (ax_hfLw (by omega) (by omega)) (Nat.le_of_ble_eq_true rfl) rfl dL_law__1440) (fun x3 T2 h => ?_)
  refine aw_istore [(5, .int x3), (0, .ref b9), (1, .ref v1), (2, .ref v2), (3, .ref v3), (4, .int v4)] dL_law__1443 rfl rfl ?_
  refine aw_aload_n 3 dL_law__1445 rfl rfl ?_
  refine aw_aload_n 1 dL_law__1446 rfl rfl ?_
  refine aw_iload 5 dL_law__1447 rfl ?_
  refine aw_iconst 1 dL_law__1449 rfl ?_
  refine aw_iadd dL_law__1450 ?_
  refine aw_sld hsc dL_law__1451 h (fun x4 h => ?_)
  obtain ⟨hL5, h⟩ := ax_is_spec h
  refine aw_doneI (rest := []) h (fun r9 S9 hF => aw_runV (As := [.int x4]) (rest := []) (L1_X10_count N hF) axc10 hL5 wd_1728 wd_1725 wd_1726 wd_1727 wd_97 pd_X10_count rfl (ax_rmL rfl rfl) (ax_hfLw (by omega) (by omega)) (Nat.le_of_ble_eq_true rfl) rfl dL_law__1452) (fun x7 T6 h => ?_)
  refine aw_istore [(6, .int x7), (5, .int x3), (0, .ref b9), (1, .ref v1), (2, .ref v2), (3, .ref v3), (4, .int v4)] dL_law__1455 rfl rfl ?_
  refine aw_aload_n 4 dL_law__1457 rfl rfl ?_
  obtain ⟨hL8, h⟩ := ax_is_spec h
  refine aw_doneI (rest := []) h (fun r9 S9 hF => aw_runV (As := []) (rest := []) (L1_X10_thrown N hF) axc10 hL8 wd_1437 wd_1434 wd_1435 wd_1436 wd_97 pd_X10_thrown rfl (ax_rmL rfl rfl) (ax_hfLw (by omega) (by omega)) (Nat.le_of_ble_eq_true rfl) rfl dL_law__1458) (fun x10 T9 h => ?_)
  refine aw_iload 1 dL_law__1461 rfl ?_
  refine aw_icmp_eq 1468 dL_law__1463 (by decide) h (fun h => ?_) (fun h => ?_)
  · refine aw_iload 1 dL_law__1468 rfl ?_
    refine aw_if_ne 1485 dL_law__1470 (by decide) h (fun h => ?_) (fun h => ?_)
    · refine aw_env [(0, .ref b9), (1, .ref v1), (2, .ref v2), (3, .ref v3), (4, .int v4)] [2, 3, 4, 5, 6] rfl ?_
      exact L1_L_law__1485 hl0 N b9 L9 xs9 hsc n23 K23 hK23 v1 v2 v3 v4 T9 _ _ (by omega) (by omega) h
    · refine aw_aload_n 5 dL_law__1473 rfl rfl ?_
      refine aw_iconst 0 dL_law__1474 rfl ?_
      refine aw_lald dL_law__1475 h (fun x11 h => ?_)
      refine aw_iload 0 dL_law__1476 rfl ?_
      refine aw_i2l dL_law__1478 ?_
      refine aw_lcmp dL_law__1479 ?_
      refine aw_if_eq 1485 dL_law__1480 (by decide) h (fun h => ?_) (fun h => ?_)
      · refine aw_env [(0, .ref b9), (1, .ref v1), (2, .ref v2), (3, .ref v3), (4, .int v4)] [2, 3, 4, 5, 6] rfl ?_
        exact L1_L_law__1485 hl0 N b9 L9 xs9 hsc n23 K23 hK23 v1 v2 v3 v4 T9 _ _ (by omega) (by omega) h
      · refine aw_iconst 0 dL_law__1483 rfl ?_
        exact aw_lawret rfl rfl dL_law__1484 (by omega) (by omega) h
  · refine aw_iconst 0 dL_law__1466 rfl ?_
    exact aw_lawret rfl rfl dL_law__1467 (by omega) (by omega) h
theorem L1_L_law__1602 {g : AxG} {l : Launch} (hl0 : l.stackTraces = false) {S9 : AxS} (N : Nat) (b9 : Nat) (L9 : Nat) (xs9 : Nat → Int32) (hsc : g.2.2.2.2.2.1 = b9 ∧ g.2.2.2.2.2.2.1 = L9 ∧ g.2.2.2.2.2.2.2.1 = xs9) (n23 : Nat) (K23 : Nat → Nat → Nat → Int32 → AxS → Option (Int32 × AxS)) (hK23 : ∀ (v1 : Nat) (v2 : Nat) (v3 : Nat) (v4 : Int32) (S : AxS) (k9 n9 : Nat) (hk9 : k9 + 1 * (n23) ≤ 601024) (hn9 : n9 + 6 * (n23) ≤ 7293034), K23 v1 v2 v3 v4 S = some ((1, S9)) → AW g l room_1 mt_L_law_ (axLQ g) k9 n9 S 23 [(0, .ref b9), (1, .ref v1), (2, .ref v2), (3, .ref v3), (4, .int v4)] []) (v1 : Nat) (v2 : Nat) (v3 : Nat) (v4 : Int32) (S : AxS) (k9 n9 : Nat) (hk9 : k9 + 1 * (n23) ≤ 601024) (hn9 : n9 + 6 * (n23) ≤ 7293034) (h : F_L_law__1602 N L9 xs9 K23 v1 v2 v3 v4 S = some ((1, S9))) : AW g l room_1 mt_L_law_ (axLQ g) k9 n9 S 1602 [(0, .ref b9), (1, .ref v1), (2, .ref v2), (3, .ref v3), (4, .int v4)] [] := by
  unfold F_L_law__1602 at h
  refine aw_goto 2507 dL_law__1602 (by decide) ?_
  refine aw_env [(0, .ref b9), (1, .ref v1), (2, .ref v2), (3, .ref v3), (4, .int v4)] [0, 1, 2, 3, 4] rfl ?_
  exact L1_L_law__2507 hl0 N b9 L9 xs9 hsc n23 K23 hK23 v1 v2 v3 v4 S _ _ (by omega) (by omega) h
theorem L1_L_law__1488 {g : AxG} {l : Launch} (hl0 : l.stackTraces = false) {S9 : AxS} (N : Nat) (b9 : Nat) (L9 : Nat) (xs9 : Nat → Int32) (hsc : g.2.2.2.2.2.1 = b9 ∧ g.2.2.2.2.2.2.1 = L9 ∧ g.2.2.2.2.2.2.2.1 = xs9) (n23 : Nat) (K23 : Nat → Nat → Nat → Int32 → AxS → Option (Int32 × AxS)) (hK23 : ∀ (v1 : Nat) (v2 : Nat) (v3 : Nat) (v4 : Int32) (S : AxS) (k9 n9 : Nat) (hk9 : k9 + 1 * (n23) ≤ 601024) (hn9 : n9 + 6 * (n23) ≤ 7293034), K23 v1 v2 v3 v4 S = some ((1, S9)) → AW g l room_1 mt_L_law_ (axLQ g) k9 n9 S 23 [(0, .ref b9), (1, .ref v1), (2, .ref v2), (3, .ref v3), (4, .int v4)] []) (v1 : Nat) (v2 : Nat) (v3 : Nat) (v4 : Int32) (S : AxS) (k9 n9 : Nat) (hk9 : k9 + 1 * (n23 + 1) ≤ 601024) (hn9 : n9 + 6 * (n23 + 1) ≤ 7293034) (h : F_L_law__1488 N L9 xs9 K23 v1 v2 v3 v4 S = some ((1, S9))) : AW g l room_1 mt_L_law_ (axLQ g) k9 n9 S 1488 [(0, .ref b9), (1, .ref v1), (2, .ref v2), (3, .ref v3), (4, .int v4)] [] := by
  unfold F_L_law__1488 at h
  refine aw_aload_n 1 dL_law__1488 rfl rfl ?_
  refine aw_aload_n 0 dL_law__1489 rfl rfl ?_
  refine aw_iload 4 dL_law__1490 rfl ?_
  refine aw_iconst 1 dL_law__1492 rfl ?_
  refine aw_iadd dL_law__1493 ?_
  refine aw_sld hsc dL_law__1494 h (fun x1 h => ?_)
  refine aw_aload_n 0 dL_law__1495 rfl rfl ?_
  refine aw_iload 4 dL_law__1496 rfl ?_
  refine aw_iconst 2 dL_law__1498 rfl ?_
  refine aw_iadd dL_law__1499 ?_
  refine aw_sld hsc dL_law__1500 h (fun x2 h => ?_)
  refine aw_aload_n 0 dL_law__1501 rfl rfl ?_
  refine aw_iload 4 dL_law__1502 rfl ?_
  refine aw_iconst 3 dL_law__1504 rfl ?_
  refine aw_iadd dL_law__1505 ?_
  refine aw_sld hsc dL_law__1506 h (fun x3 h => ?_)
  refine aw_aload_n 0 dL_law__1507 rfl rfl ?_
  refine aw_iload 4 dL_law__1508 rfl ?_
  refine aw_iconst 4 dL_law__1510 rfl ?_
  refine aw_iadd dL_law__1511 ?_
  refine aw_sld hsc dL_law__1512 h (fun x4 h => ?_)
  refine aw_aload_n 0 dL_law__1513 rfl rfl ?_
  refine aw_iload 4 dL_law__1514 rfl ?_
  refine aw_iconst 5 dL_law__1516 rfl ?_
  refine aw_iadd dL_law__1517 ?_
  refine aw_sld hsc dL_law__1518 h (fun x5 h => ?_)
  refine aw_aload_n 0 dL_law__1519 rfl rfl ?_
  refine aw_iload 4 dL_law__1520 rfl ?_
  refine aw_bipush 6 dL_law__1522 (by decide) ?_
  refine aw_iadd dL_law__1524 ?_
  refine aw_sld hsc dL_law__1525 h (fun x6 h => ?_)
  refine aw_aload_n 3 dL_law__1526 rfl rfl ?_
  refine aw_doneI (rest := []) h (fun r9 S9 hF => aw_runSH (As := [.ref v1, .int x1, .int x2, .int x3, .int x4, .int x5, .int x6, .ref v3]) (rest := []) (L1_L_mistaken hl0 N hF) wd_1108 wd_1106 wd_1107 wd_86 pd_L_mistaken.2 rfl (ax_rmL rfl rfl) (ax_hfLw (by omega) (by omega)) (Nat.le_of_ble_eq_true rfl) rfl dL_law__1527) (fun x8 T7 h => ?_)
  refine aw_istore [(5, .int x8), (0, .ref b9), (1, .ref v1), (2, .ref v2), (3, .ref v3), (4, .int v4)] dL_law__1530 rfl rfl ?_
  refine aw_aload_n 3 dL_law__1532 rfl rfl ?_
  refine aw_aload_n 1 dL_law__1533 rfl rfl ?_
  refine aw_iload 5 dL_law__1534 rfl ?_
  refine aw_iconst 1 dL_law__1536 rfl ?_
  refine aw_iadd dL_law__1537 ?_
  refine aw_sld hsc dL_law__1538 h (fun x9 h => ?_)
  refine aw_aload_n 1 dL_law__1539 rfl rfl ?_
  refine aw_iload 5 dL_law__1540 rfl ?_
  refine aw_iconst 2 dL_law__1542 rfl ?_
  refine aw_iadd dL_law__1543 ?_
  refine aw_sld hsc dL_law__1544 h (fun x10 h => ?_)
  refine aw_aload_n 1 dL_law__1545 rfl rfl ?_
  refine aw_iload 5 dL_law__1546 rfl ?_
  refine aw_iconst 3 dL_law__1548 rfl ?_
  refine aw_iadd dL_law__1549 ?_
  refine aw_sld hsc dL_law__1550 h (fun x11 h => ?_)
  refine aw_aload_n 1 dL_law__1551 rfl rfl ?_
  refine aw_iload 5 dL_law__1552 rfl ?_
  refine aw_iconst 4 dL_law__1554 rfl ?_
  refine aw_iadd dL_law__1555 ?_
  refine aw_sld hsc dL_law__1556 h (fun x12 h => ?_)
  refine aw_aload_n 1 dL_law__1557 rfl rfl ?_
  refine aw_iload 5 dL_law__1558 rfl ?_
  refine aw_iconst 5 dL_law__1560 rfl ?_
  refine aw_iadd dL_law__1561 ?_
  refine aw_sld hsc dL_law__1562 h (fun x13 h => ?_)
  refine aw_aload_n 1 dL_law__1563 rfl rfl ?_
  refine aw_iload 5 dL_law__1564 rfl ?_
  refine aw_bipush 6 dL_law__1566 (by decide) ?_
  refine aw_iadd dL_law__1568 ?_
  refine aw_sld hsc dL_law__1569 h (fun x14 h => ?_)
  obtain ⟨hL15, h⟩ := ax_is_spec h
  refine aw_doneL (rest := []) h (fun r9 S9 hF => aw_runV (As := [.int x9, .int x10, .int x11, .int x12, .int x13, .int x14]) (rest := []) (L1_X10_mistaken N hF) axc10 hL15 wd_1736 wd_1733 wd_1734 wd_1735 wd_97 pd_X10_mistaken rfl (ax_rmL rfl rfl) (ax_hfLw (by omega) (by omega)) (Nat.le_of_ble_eq_true rfl) rfl dL_law__1570) (fun x17 T16 h => ?_)
  refine aw_lstore [(6, .long x17), (5, .int x8), (0, .ref b9), (1, .ref v1), (2, .ref v2), (3, .ref v3), (4, .int v4)] dL_law__1573 rfl rfl ?_
  refine aw_aload_n 4 dL_law__1575 rfl rfl ?_
  obtain ⟨hL18, h⟩ := ax_is_spec h
  refine aw_doneI (rest := []) h (fun r9 S9 hF => aw_runV (As := []) (rest := []) (L1_X10_thrown N hF) axc10 hL18 wd_1437 wd_1434 wd_1435 wd_1436 wd_97 pd_X10_thrown rfl (ax_rmL rfl rfl) (ax_hfLw (by omega) (by omega)) (Nat.le_of_ble_eq_true rfl) rfl dL_law__1576) (fun x20 T19 h => ?_)
  refine aw_iload 1 dL_law__1579 rfl ?_
  refine aw_icmp_eq 1586 dL_law__1581 (by decide) h (fun h => ?_) (fun h => ?_)
  · refine aw_iload 1 dL_law__1586 rfl ?_
    refine aw_if_ne 1602 dL_law__1588 (by decide) h (fun h => ?_) (fun h => ?_)
    · refine aw_env [(0, .ref b9), (1, .ref v1), (2, .ref v2), (3, .ref v3), (4, .int v4)] [2, 3, 4, 5, 6] rfl ?_
      exact L1_L_law__1602 hl0 N b9 L9 xs9 hsc n23 K23 hK23 v1 v2 v3 v4 T19 _ _ (by omega) (by omega) h
    · refine aw_aload_n 5 dL_law__1591 rfl rfl ?_
      refine aw_iconst 0 dL_law__1592 rfl ?_
      refine aw_lald dL_law__1593 h (fun x21 h => ?_)
      refine aw_lload 0 dL_law__1594 rfl ?_
      refine aw_lcmp dL_law__1596 ?_
      refine aw_if_eq 1602 dL_law__1597 (by decide) h (fun h => ?_) (fun h => ?_)
      · refine aw_env [(0, .ref b9), (1, .ref v1), (2, .ref v2), (3, .ref v3), (4, .int v4)] [2, 3, 4, 5, 6] rfl ?_
        exact L1_L_law__1602 hl0 N b9 L9 xs9 hsc n23 K23 hK23 v1 v2 v3 v4 T19 _ _ (by omega) (by omega) h
      · refine aw_iconst 0 dL_law__1600 rfl ?_
        exact aw_lawret rfl rfl dL_law__1601 (by omega) (by omega) h
  · refine aw_iconst 0 dL_law__1584 rfl ?_
    exact aw_lawret rfl rfl dL_law__1585 (by omega) (by omega) h
theorem L1_L_law__1682 {g : AxG} {l : Launch} (hl0 : l.stackTraces = false) {S9 : AxS} (N : Nat) (b9 : Nat) (L9 : Nat) (xs9 : Nat → Int32) (hsc : g.2.2.2.2.2.1 = b9 ∧ g.2.2.2.2.2.2.1 = L9 ∧ g.2.2.2.2.2.2.2.1 = xs9) (n23 : Nat) (K23 : Nat → Nat → Nat → Int32 → AxS → Option (Int32 × AxS)) (hK23 : ∀ (v1 : Nat) (v2 : Nat) (v3 : Nat) (v4 : Int32) (S : AxS) (k9 n9 : Nat) (hk9 : k9 + 1 * (n23) ≤ 601024) (hn9 : n9 + 6 * (n23) ≤ 7293034), K23 v1 v2 v3 v4 S = some ((1, S9)) → AW g l room_1 mt_L_law_ (axLQ g) k9 n9 S 23 [(0, .ref b9), (1, .ref v1), (2, .ref v2), (3, .ref v3), (4, .int v4)] []) (v1 : Nat) (v2 : Nat) (v3 : Nat) (v4 : Int32) (S : AxS) (k9 n9 : Nat) (hk9 : k9 + 1 * (n23) ≤ 601024) (hn9 : n9 + 6 * (n23) ≤ 7293034) (h : F_L_law__1682 N L9 xs9 K23 v1 v2 v3 v4 S = some ((1, S9))) : AW g l room_1 mt_L_law_ (axLQ g) k9 n9 S 1682 [(0, .ref b9), (1, .ref v1), (2, .ref v2), (3, .ref v3), (4, .int v4)] [] := by
  unfold F_L_law__1682 at h
  refine aw_goto 2507 dL_law__1682 (by decide) ?_
  refine aw_env [(0, .ref b9), (1, .ref v1), (2, .ref v2), (3, .ref v3), (4, .int v4)] [0, 1, 2, 3, 4] rfl ?_
  exact L1_L_law__2507 hl0 N b9 L9 xs9 hsc n23 K23 hK23 v1 v2 v3 v4 S _ _ (by omega) (by omega) h
theorem L1_L_law__1605 {g : AxG} {l : Launch} (hl0 : l.stackTraces = false) {S9 : AxS} (N : Nat) (b9 : Nat) (L9 : Nat) (xs9 : Nat → Int32) (hsc : g.2.2.2.2.2.1 = b9 ∧ g.2.2.2.2.2.2.1 = L9 ∧ g.2.2.2.2.2.2.2.1 = xs9) (n23 : Nat) (K23 : Nat → Nat → Nat → Int32 → AxS → Option (Int32 × AxS)) (hK23 : ∀ (v1 : Nat) (v2 : Nat) (v3 : Nat) (v4 : Int32) (S : AxS) (k9 n9 : Nat) (hk9 : k9 + 1 * (n23) ≤ 601024) (hn9 : n9 + 6 * (n23) ≤ 7293034), K23 v1 v2 v3 v4 S = some ((1, S9)) → AW g l room_1 mt_L_law_ (axLQ g) k9 n9 S 23 [(0, .ref b9), (1, .ref v1), (2, .ref v2), (3, .ref v3), (4, .int v4)] []) (v1 : Nat) (v2 : Nat) (v3 : Nat) (v4 : Int32) (S : AxS) (k9 n9 : Nat) (hk9 : k9 + 1 * (n23 + 1) ≤ 601024) (hn9 : n9 + 6 * (n23 + 1) ≤ 7293034) (h : F_L_law__1605 N L9 xs9 K23 v1 v2 v3 v4 S = some ((1, S9))) : AW g l room_1 mt_L_law_ (axLQ g) k9 n9 S 1605 [(0, .ref b9), (1, .ref v1), (2, .ref v2), (3, .ref v3), (4, .int v4)] [] := by
  unfold F_L_law__1605 at h
  refine aw_aload_n 1 dL_law__1605 rfl rfl ?_
  refine aw_aload_n 0 dL_law__1606 rfl rfl ?_
  refine aw_iload 4 dL_law__1607 rfl ?_
  refine aw_iconst 1 dL_law__1609 rfl ?_
  refine aw_iadd dL_law__1610 ?_
  refine aw_sld hsc dL_law__1611 h (fun x1 h => ?_)
  refine aw_aload_n 0 dL_law__1612 rfl rfl ?_
  refine aw_iload 4 dL_law__1613 rfl ?_
  refine aw_iconst 2 dL_law__1615 rfl ?_
  refine aw_iadd dL_law__1616 ?_
  refine aw_sld hsc dL_law__1617 h (fun x2 h => ?_)
  refine aw_aload_n 0 dL_law__1618 rfl rfl ?_
  refine aw_iload 4 dL_law__1619 rfl ?_
  refine aw_iconst 3 dL_law__1621 rfl ?_
  refine aw_iadd dL_law__1622 ?_
  refine aw_sld hsc dL_law__1623 h (fun x3 h => ?_)
  refine aw_aload_n 3 dL_law__1624 rfl rfl ?_
  refine aw_doneI (rest := []) h (fun r9 S9 hF => aw_runSH (As := [.ref v1, .int x1, .int x2, .int x3, .ref v3]) (rest := []) (L1_L_best hl0 N hF) wd_1129 wd_1127 wd_1128 wd_86 pd_L_best.2 rfl (ax_rmL rfl rfl) (ax_hfLw (by omega) (by omega)) (Nat.le_of_ble_eq_true rfl) rfl dL_law__1625) (fun x5 T4 h => ?_)
  refine aw_istore [(5, .int x5), (0, .ref b9), (1, .ref v1), (2, .ref v2), (3, .ref v3), (4, .int v4)] dL_law__1628 rfl rfl ?_
  refine aw_aload_n 3 dL_law__1630 rfl rfl ?_
  refine aw_aload_n 1 dL_law__1631 rfl rfl ?_
  refine aw_iload 5 dL_law__1632 rfl ?_
  refine aw_iconst 1 dL_law__1634 rfl ?_
  refine aw_iadd dL_law__1635 ?_
  refine aw_sld hsc dL_law__1636 h (fun x6 h => ?_)
  refine aw_aload_n 1 dL_law__1637 rfl rfl ?_
  refine aw_iload 5 dL_law__1638 rfl ?_
  refine aw_iconst 2 dL_law__1640 rfl ?_
  refine aw_iadd dL_law__1641 ?_
  refine aw_sld hsc dL_law__1642 h (fun x7 h => ?_)
  refine aw_aload_n 1 dL_law__1643 rfl rfl ?_
  refine aw_iload 5 dL_law__1644 rfl ?_
  refine aw_iconst 3 dL_law__1646 rfl ?_
  refine aw_iadd dL_law__1647 ?_
  refine aw_sld hsc dL_law__1648 h (fun x8 h => ?_)
  obtain ⟨hL9, h⟩ := ax_is_spec h
  refine aw_doneI (rest := []) h (fun r9 S9 hF => aw_runV (As := [.int x6, .int x7, .int x8]) (rest := []) (L1_X10_best N hF) axc10 hL9 wd_1750 wd_1747 wd_1748 wd_1749 wd_97 pd_X10_best rfl (ax_rmL rfl rfl) (ax_hfLw (by omega) (by omega)) (Nat.le_of_ble_eq_true rfl) rfl dL_law__1649) (fun x11 T10 h => ?_)
  refine aw_istore [(6, .int x11), (5, .int x5), (0, .ref b9), (1, .ref v1), (2, .ref v2), (3, .ref v3), (4, .int v4)] dL_law__1652 rfl rfl ?_
  refine aw_aload_n 4 dL_law__1654 rfl rfl ?_
  obtain ⟨hL12, h⟩ := ax_is_spec h
  refine aw_doneI (rest := []) h (fun r9 S9 hF => aw_runV (As := []) (rest := []) (L1_X10_thrown N hF) axc10 hL12 wd_1437 wd_1434 wd_1435 wd_1436 wd_97 pd_X10_thrown rfl (ax_rmL rfl rfl) (ax_hfLw (by omega) (by omega)) (Nat.le_of_ble_eq_true rfl) rfl dL_law__1655) (fun x14 T13 h => ?_)
  refine aw_iload 1 dL_law__1658 rfl ?_
  refine aw_icmp_eq 1665 dL_law__1660 (by decide) h (fun h => ?_) (fun h => ?_)
  · refine aw_iload 1 dL_law__1665 rfl ?_
    refine aw_if_ne 1682 dL_law__1667 (by decide) h (fun h => ?_) (fun h => ?_)
    · refine aw_env [(0, .ref b9), (1, .ref v1), (2, .ref v2), (3, .ref v3), (4, .int v4)] [2, 3, 4, 5, 6] rfl ?_
      exact L1_L_law__1682 hl0 N b9 L9 xs9 hsc n23 K23 hK23 v1 v2 v3 v4 T13 _ _ (by omega) (by omega) h
    · refine aw_aload_n 5 dL_law__1670 rfl rfl ?_
      refine aw_iconst 0 dL_law__1671 rfl ?_
      refine aw_lald dL_law__1672 h (fun x15 h => ?_)
      refine aw_iload 0 dL_law__1673 rfl ?_
      refine aw_i2l dL_law__1675 ?_
      refine aw_lcmp dL_law__1676 ?_
      refine aw_if_eq 1682 dL_law__1677 (by decide) h (fun h => ?_) (fun h => ?_)
      · refine aw_env [(0, .ref b9), (1, .ref v1), (2, .ref v2), (3, .ref v3), (4, .int v4)] [2, 3, 4, 5, 6] rfl ?_
        exact L1_L_law__1682 hl0 N b9 L9 xs9 hsc n23 K23 hK23 v1 v2 v3 v4 T13 _ _ (by omega) (by omega) h
      · refine aw_iconst 0 dL_law__1680 rfl ?_
        exact aw_lawret rfl rfl dL_law__1681 (by omega) (by omega) h
  · refine aw_iconst 0 dL_law__1663 rfl ?_
    exact aw_lawret rfl rfl dL_law__1664 (by omega) (by omega) h
theorem L1_L_law__1738 {g : AxG} {l : Launch} (hl0 : l.stackTraces = false) {S9 : AxS} (N : Nat) (b9 : Nat) (L9 : Nat) (xs9 : Nat → Int32) (hsc : g.2.2.2.2.2.1 = b9 ∧ g.2.2.2.2.2.2.1 = L9 ∧ g.2.2.2.2.2.2.2.1 = xs9) (n23 : Nat) (K23 : Nat → Nat → Nat → Int32 → AxS → Option (Int32 × AxS)) (hK23 : ∀ (v1 : Nat) (v2 : Nat) (v3 : Nat) (v4 : Int32) (S : AxS) (k9 n9 : Nat) (hk9 : k9 + 1 * (n23) ≤ 601024) (hn9 : n9 + 6 * (n23) ≤ 7293034), K23 v1 v2 v3 v4 S = some ((1, S9)) → AW g l room_1 mt_L_law_ (axLQ g) k9 n9 S 23 [(0, .ref b9), (1, .ref v1), (2, .ref v2), (3, .ref v3), (4, .int v4)] []) (v1 : Nat) (v2 : Nat) (v3 : Nat) (v4 : Int32) (S : AxS) (k9 n9 : Nat) (hk9 : k9 + 1 * (n23) ≤ 601024) (hn9 : n9 + 6 * (n23) ≤ 7293034) (h : F_L_law__1738 N L9 xs9 K23 v1 v2 v3 v4 S = some ((1, S9))) : AW g l room_1 mt_L_law_ (axLQ g) k9 n9 S 1738 [(0, .ref b9), (1, .ref v1), (2, .ref v2), (3, .ref v3), (4, .int v4)] [] := by
  unfold F_L_law__1738 at h
  refine aw_goto 2507 dL_law__1738 (by decide) ?_
  refine aw_env [(0, .ref b9), (1, .ref v1), (2, .ref v2), (3, .ref v3), (4, .int v4)] [0, 1, 2, 3, 4] rfl ?_
  exact L1_L_law__2507 hl0 N b9 L9 xs9 hsc n23 K23 hK23 v1 v2 v3 v4 S _ _ (by omega) (by omega) h
theorem L1_L_law__1685 {g : AxG} {l : Launch} (hl0 : l.stackTraces = false) {S9 : AxS} (N : Nat) (b9 : Nat) (L9 : Nat) (xs9 : Nat → Int32) (hsc : g.2.2.2.2.2.1 = b9 ∧ g.2.2.2.2.2.2.1 = L9 ∧ g.2.2.2.2.2.2.2.1 = xs9) (n23 : Nat) (K23 : Nat → Nat → Nat → Int32 → AxS → Option (Int32 × AxS)) (hK23 : ∀ (v1 : Nat) (v2 : Nat) (v3 : Nat) (v4 : Int32) (S : AxS) (k9 n9 : Nat) (hk9 : k9 + 1 * (n23) ≤ 601024) (hn9 : n9 + 6 * (n23) ≤ 7293034), K23 v1 v2 v3 v4 S = some ((1, S9)) → AW g l room_1 mt_L_law_ (axLQ g) k9 n9 S 23 [(0, .ref b9), (1, .ref v1), (2, .ref v2), (3, .ref v3), (4, .int v4)] []) (v1 : Nat) (v2 : Nat) (v3 : Nat) (v4 : Int32) (S : AxS) (k9 n9 : Nat) (hk9 : k9 + 1 * (n23 + 1) ≤ 601024) (hn9 : n9 + 6 * (n23 + 1) ≤ 7293034) (h : F_L_law__1685 N L9 xs9 K23 v1 v2 v3 v4 S = some ((1, S9))) : AW g l room_1 mt_L_law_ (axLQ g) k9 n9 S 1685 [(0, .ref b9), (1, .ref v1), (2, .ref v2), (3, .ref v3), (4, .int v4)] [] := by
  unfold F_L_law__1685 at h
  refine aw_aload_n 1 dL_law__1685 rfl rfl ?_
  refine aw_aload_n 0 dL_law__1686 rfl rfl ?_
  refine aw_iload 4 dL_law__1687 rfl ?_
  refine aw_iconst 1 dL_law__1689 rfl ?_
  refine aw_iadd dL_law__1690 ?_
  refine aw_sld hsc dL_law__1691 h (fun x1 h => ?_)
  refine aw_aload_n 3 dL_law__1692 rfl rfl ?_
  refine aw_doneI (rest := []) h (fun r9 S9 hF => aw_runSH (As := [.ref v1, .int x1, .ref v3]) (rest := []) (L1_L_beds hl0 N hF) wd_1137 wd_1135 wd_1136 wd_86 pd_L_beds.2 rfl (ax_rmL rfl rfl) (ax_hfLw (by omega) (by omega)) (Nat.le_of_ble_eq_true rfl) rfl dL_law__1693) (fun x3 T2 h => ?_)
  refine aw_istore [(5, .int x3), (0, .ref b9), (1, .ref v1), (2, .ref v2), (3, .ref v3), (4, .int v4)] dL_law__1696 rfl rfl ?_
  refine aw_aload_n 3 dL_law__1698 rfl rfl ?_
  refine aw_aload_n 1 dL_law__1699 rfl rfl ?_
  refine aw_iload 5 dL_law__1700 rfl ?_
  refine aw_iconst 1 dL_law__1702 rfl ?_
  refine aw_iadd dL_law__1703 ?_
  refine aw_sld hsc dL_law__1704 h (fun x4 h => ?_)
  obtain ⟨hL5, h⟩ := ax_is_spec h
  refine aw_doneI (rest := []) h (fun r9 S9 hF => aw_runV (As := [.int x4]) (rest := []) (L1_X10_beds N hF) axc10 hL5 wd_1754 wd_1751 wd_1752 wd_1753 wd_97 pd_X10_beds rfl (ax_rmL rfl rfl) (ax_hfLw (by omega) (by omega)) (Nat.le_of_ble_eq_true rfl) rfl dL_law__1705) (fun x7 T6 h => ?_)
  refine aw_istore [(6, .int x7), (5, .int x3), (0, .ref b9), (1, .ref v1), (2, .ref v2), (3, .ref v3), (4, .int v4)] dL_law__1708 rfl rfl ?_
  refine aw_aload_n 4 dL_law__1710 rfl rfl ?_
  obtain ⟨hL8, h⟩ := ax_is_spec h
  refine aw_doneI (rest := []) h (fun r9 S9 hF => aw_runV (As := []) (rest := []) (L1_X10_thrown N hF) axc10 hL8 wd_1437 wd_1434 wd_1435 wd_1436 wd_97 pd_X10_thrown rfl (ax_rmL rfl rfl) (ax_hfLw (by omega) (by omega)) (Nat.le_of_ble_eq_true rfl) rfl dL_law__1711) (fun x10 T9 h => ?_)
  refine aw_iload 1 dL_law__1714 rfl ?_
  refine aw_icmp_eq 1721 dL_law__1716 (by decide) h (fun h => ?_) (fun h => ?_)
  · refine aw_iload 1 dL_law__1721 rfl ?_
    refine aw_if_ne 1738 dL_law__1723 (by decide) h (fun h => ?_) (fun h => ?_)
    · refine aw_env [(0, .ref b9), (1, .ref v1), (2, .ref v2), (3, .ref v3), (4, .int v4)] [2, 3, 4, 5, 6] rfl ?_
      exact L1_L_law__1738 hl0 N b9 L9 xs9 hsc n23 K23 hK23 v1 v2 v3 v4 T9 _ _ (by omega) (by omega) h
    · refine aw_aload_n 5 dL_law__1726 rfl rfl ?_
      refine aw_iconst 0 dL_law__1727 rfl ?_
      refine aw_lald dL_law__1728 h (fun x11 h => ?_)
      refine aw_iload 0 dL_law__1729 rfl ?_
      refine aw_i2l dL_law__1731 ?_
      refine aw_lcmp dL_law__1732 ?_
      refine aw_if_eq 1738 dL_law__1733 (by decide) h (fun h => ?_) (fun h => ?_)
      · refine aw_env [(0, .ref b9), (1, .ref v1), (2, .ref v2), (3, .ref v3), (4, .int v4)] [2, 3, 4, 5, 6] rfl ?_
        exact L1_L_law__1738 hl0 N b9 L9 xs9 hsc n23 K23 hK23 v1 v2 v3 v4 T9 _ _ (by omega) (by omega) h
      · refine aw_iconst 0 dL_law__1736 rfl ?_
        exact aw_lawret rfl rfl dL_law__1737 (by omega) (by omega) h
  · refine aw_iconst 0 dL_law__1719 rfl ?_
    exact aw_lawret rfl rfl dL_law__1720 (by omega) (by omega) h
theorem L1_L_law__1806 {g : AxG} {l : Launch} (hl0 : l.stackTraces = false) {S9 : AxS} (N : Nat) (b9 : Nat) (L9 : Nat) (xs9 : Nat → Int32) (hsc : g.2.2.2.2.2.1 = b9 ∧ g.2.2.2.2.2.2.1 = L9 ∧ g.2.2.2.2.2.2.2.1 = xs9) (n23 : Nat) (K23 : Nat → Nat → Nat → Int32 → AxS → Option (Int32 × AxS)) (hK23 : ∀ (v1 : Nat) (v2 : Nat) (v3 : Nat) (v4 : Int32) (S : AxS) (k9 n9 : Nat) (hk9 : k9 + 1 * (n23) ≤ 601024) (hn9 : n9 + 6 * (n23) ≤ 7293034), K23 v1 v2 v3 v4 S = some ((1, S9)) → AW g l room_1 mt_L_law_ (axLQ g) k9 n9 S 23 [(0, .ref b9), (1, .ref v1), (2, .ref v2), (3, .ref v3), (4, .int v4)] []) (v1 : Nat) (v2 : Nat) (v3 : Nat) (v4 : Int32) (S : AxS) (k9 n9 : Nat) (hk9 : k9 + 1 * (n23) ≤ 601024) (hn9 : n9 + 6 * (n23) ≤ 7293034) (h : F_L_law__1806 N L9 xs9 K23 v1 v2 v3 v4 S = some ((1, S9))) : AW g l room_1 mt_L_law_ (axLQ g) k9 n9 S 1806 [(0, .ref b9), (1, .ref v1), (2, .ref v2), (3, .ref v3), (4, .int v4)] [] := by
  unfold F_L_law__1806 at h
  refine aw_goto 2507 dL_law__1806 (by decide) ?_
  refine aw_env [(0, .ref b9), (1, .ref v1), (2, .ref v2), (3, .ref v3), (4, .int v4)] [0, 1, 2, 3, 4] rfl ?_
  exact L1_L_law__2507 hl0 N b9 L9 xs9 hsc n23 K23 hK23 v1 v2 v3 v4 S _ _ (by omega) (by omega) h
theorem L1_L_law__1741 {g : AxG} {l : Launch} (hl0 : l.stackTraces = false) {S9 : AxS} (N : Nat) (b9 : Nat) (L9 : Nat) (xs9 : Nat → Int32) (hsc : g.2.2.2.2.2.1 = b9 ∧ g.2.2.2.2.2.2.1 = L9 ∧ g.2.2.2.2.2.2.2.1 = xs9) (n23 : Nat) (K23 : Nat → Nat → Nat → Int32 → AxS → Option (Int32 × AxS)) (hK23 : ∀ (v1 : Nat) (v2 : Nat) (v3 : Nat) (v4 : Int32) (S : AxS) (k9 n9 : Nat) (hk9 : k9 + 1 * (n23) ≤ 601024) (hn9 : n9 + 6 * (n23) ≤ 7293034), K23 v1 v2 v3 v4 S = some ((1, S9)) → AW g l room_1 mt_L_law_ (axLQ g) k9 n9 S 23 [(0, .ref b9), (1, .ref v1), (2, .ref v2), (3, .ref v3), (4, .int v4)] []) (v1 : Nat) (v2 : Nat) (v3 : Nat) (v4 : Int32) (S : AxS) (k9 n9 : Nat) (hk9 : k9 + 1 * (n23 + 1) ≤ 601024) (hn9 : n9 + 6 * (n23 + 1) ≤ 7293034) (h : F_L_law__1741 N L9 xs9 K23 v1 v2 v3 v4 S = some ((1, S9))) : AW g l room_1 mt_L_law_ (axLQ g) k9 n9 S 1741 [(0, .ref b9), (1, .ref v1), (2, .ref v2), (3, .ref v3), (4, .int v4)] [] := by
  unfold F_L_law__1741 at h
  refine aw_aload_n 1 dL_law__1741 rfl rfl ?_
  refine aw_aload_n 0 dL_law__1742 rfl rfl ?_
  refine aw_iload 4 dL_law__1743 rfl ?_
  refine aw_iconst 1 dL_law__1745 rfl ?_
  refine aw_iadd dL_law__1746 ?_
  refine aw_sld hsc dL_law__1747 h (fun x1 h => ?_)
  refine aw_aload_n 0 dL_law__1748 rfl rfl ?_
  refine aw_iload 4 dL_law__1749 rfl ?_
  refine aw_iconst 2 dL_law__1751 rfl ?_
  refine aw_iadd dL_law__1752 ?_
  refine aw_sld hsc dL_law__1753 h (fun x2 h => ?_)
  refine aw_aload_n 3 dL_law__1754 rfl rfl ?_
  refine aw_doneI (rest := []) h (fun r9 S9 hF => aw_runSH (As := [.ref v1, .int x1, .int x2, .ref v3]) (rest := []) (L1_L_bed hl0 N hF) wd_1167 wd_1165 wd_1166 wd_86 pd_L_bed.2 rfl (ax_rmL rfl rfl) (ax_hfLw (by omega) (by omega)) (Nat.le_of_ble_eq_true rfl) rfl dL_law__1755) (fun x4 T3 h => ?_)
  refine aw_istore [(5, .int x4), (0, .ref b9), (1, .ref v1), (2, .ref v2), (3, .ref v3), (4, .int v4)] dL_law__1758 rfl rfl ?_
  refine aw_aload_n 3 dL_law__1760 rfl rfl ?_
  refine aw_aload_n 1 dL_law__1761 rfl rfl ?_
  refine aw_iload 5 dL_law__1762 rfl ?_
  refine aw_iconst 1 dL_law__1764 rfl ?_
  refine aw_iadd dL_law__1765 ?_
  refine aw_sld hsc dL_law__1766 h (fun x5 h => ?_)
  refine aw_aload_n 1 dL_law__1767 rfl rfl ?_
  refine aw_iload 5 dL_law__1768 rfl ?_
  refine aw_iconst 2 dL_law__1770 rfl ?_
  refine aw_iadd dL_law__1771 ?_
  refine aw_sld hsc dL_law__1772 h (fun x6 h => ?_)
  obtain ⟨hL7, h⟩ := ax_is_spec h
  refine aw_doneI (rest := []) h (fun r9 S9 hF => aw_runV (As := [.int x5, .int x6]) (rest := []) (L1_X10_bed N hF) axc10 hL7 wd_1766 wd_1763 wd_1764 wd_1765 wd_97 pd_X10_bed rfl (ax_rmL rfl rfl) (ax_hfLw (by omega) (by omega)) (Nat.le_of_ble_eq_true rfl) rfl dL_law__1773) (fun x9 T8 h => ?_)
  refine aw_istore [(6, .int x9), (5, .int x4), (0, .ref b9), (1, .ref v1), (2, .ref v2), (3, .ref v3), (4, .int v4)] dL_law__1776 rfl rfl ?_
  refine aw_aload_n 4 dL_law__1778 rfl rfl ?_
  obtain ⟨hL10, h⟩ := ax_is_spec h
  refine aw_doneI (rest := []) h (fun r9 S9 hF => aw_runV (As := []) (rest := []) (L1_X10_thrown N hF) axc10 hL10 wd_1437 wd_1434 wd_1435 wd_1436 wd_97 pd_X10_thrown rfl (ax_rmL rfl rfl) (ax_hfLw (by omega) (by omega)) (Nat.le_of_ble_eq_true rfl) rfl dL_law__1779) (fun x12 T11 h => ?_)
  refine aw_iload 1 dL_law__1782 rfl ?_
  refine aw_icmp_eq 1789 dL_law__1784 (by decide) h (fun h => ?_) (fun h => ?_)
  · refine aw_iload 1 dL_law__1789 rfl ?_
    refine aw_if_ne 1806 dL_law__1791 (by decide) h (fun h => ?_) (fun h => ?_)
    · refine aw_env [(0, .ref b9), (1, .ref v1), (2, .ref v2), (3, .ref v3), (4, .int v4)] [2, 3, 4, 5, 6] rfl ?_
      exact L1_L_law__1806 hl0 N b9 L9 xs9 hsc n23 K23 hK23 v1 v2 v3 v4 T11 _ _ (by omega) (by omega) h
    · refine aw_aload_n 5 dL_law__1794 rfl rfl ?_
      refine aw_iconst 0 dL_law__1795 rfl ?_
      refine aw_lald dL_law__1796 h (fun x13 h => ?_)
      refine aw_iload 0 dL_law__1797 rfl ?_
      refine aw_i2l dL_law__1799 ?_
      refine aw_lcmp dL_law__1800 ?_
      refine aw_if_eq 1806 dL_law__1801 (by decide) h (fun h => ?_) (fun h => ?_)
      · refine aw_env [(0, .ref b9), (1, .ref v1), (2, .ref v2), (3, .ref v3), (4, .int v4)] [2, 3, 4, 5, 6] rfl ?_
        exact L1_L_law__1806 hl0 N b9 L9 xs9 hsc n23 K23 hK23 v1 v2 v3 v4 T11 _ _ (by omega) (by omega) h
      · refine aw_iconst 0 dL_law__1804 rfl ?_
        exact aw_lawret rfl rfl dL_law__1805 (by omega) (by omega) h
  · refine aw_iconst 0 dL_law__1787 rfl ?_
    exact aw_lawret rfl rfl dL_law__1788 (by omega) (by omega) h
theorem L1_L_law__1874 {g : AxG} {l : Launch} (hl0 : l.stackTraces = false) {S9 : AxS} (N : Nat) (b9 : Nat) (L9 : Nat) (xs9 : Nat → Int32) (hsc : g.2.2.2.2.2.1 = b9 ∧ g.2.2.2.2.2.2.1 = L9 ∧ g.2.2.2.2.2.2.2.1 = xs9) (n23 : Nat) (K23 : Nat → Nat → Nat → Int32 → AxS → Option (Int32 × AxS)) (hK23 : ∀ (v1 : Nat) (v2 : Nat) (v3 : Nat) (v4 : Int32) (S : AxS) (k9 n9 : Nat) (hk9 : k9 + 1 * (n23) ≤ 601024) (hn9 : n9 + 6 * (n23) ≤ 7293034), K23 v1 v2 v3 v4 S = some ((1, S9)) → AW g l room_1 mt_L_law_ (axLQ g) k9 n9 S 23 [(0, .ref b9), (1, .ref v1), (2, .ref v2), (3, .ref v3), (4, .int v4)] []) (v1 : Nat) (v2 : Nat) (v3 : Nat) (v4 : Int32) (S : AxS) (k9 n9 : Nat) (hk9 : k9 + 1 * (n23) ≤ 601024) (hn9 : n9 + 6 * (n23) ≤ 7293034) (h : F_L_law__1874 N L9 xs9 K23 v1 v2 v3 v4 S = some ((1, S9))) : AW g l room_1 mt_L_law_ (axLQ g) k9 n9 S 1874 [(0, .ref b9), (1, .ref v1), (2, .ref v2), (3, .ref v3), (4, .int v4)] [] := by
  unfold F_L_law__1874 at h
  refine aw_goto 2507 dL_law__1874 (by decide) ?_
  refine aw_env [(0, .ref b9), (1, .ref v1), (2, .ref v2), (3, .ref v3), (4, .int v4)] [0, 1, 2, 3, 4] rfl ?_
  exact L1_L_law__2507 hl0 N b9 L9 xs9 hsc n23 K23 hK23 v1 v2 v3 v4 S _ _ (by omega) (by omega) h
theorem L1_L_law__1809 {g : AxG} {l : Launch} (hl0 : l.stackTraces = false) {S9 : AxS} (N : Nat) (b9 : Nat) (L9 : Nat) (xs9 : Nat → Int32) (hsc : g.2.2.2.2.2.1 = b9 ∧ g.2.2.2.2.2.2.1 = L9 ∧ g.2.2.2.2.2.2.2.1 = xs9) (n23 : Nat) (K23 : Nat → Nat → Nat → Int32 → AxS → Option (Int32 × AxS)) (hK23 : ∀ (v1 : Nat) (v2 : Nat) (v3 : Nat) (v4 : Int32) (S : AxS) (k9 n9 : Nat) (hk9 : k9 + 1 * (n23) ≤ 601024) (hn9 : n9 + 6 * (n23) ≤ 7293034), K23 v1 v2 v3 v4 S = some ((1, S9)) → AW g l room_1 mt_L_law_ (axLQ g) k9 n9 S 23 [(0, .ref b9), (1, .ref v1), (2, .ref v2), (3, .ref v3), (4, .int v4)] []) (v1 : Nat) (v2 : Nat) (v3 : Nat) (v4 : Int32) (S : AxS) (k9 n9 : Nat) (hk9 : k9 + 1 * (n23 + 1) ≤ 601024) (hn9 : n9 + 6 * (n23 + 1) ≤ 7293034) (h : F_L_law__1809 N L9 xs9 K23 v1 v2 v3 v4 S = some ((1, S9))) : AW g l room_1 mt_L_law_ (axLQ g) k9 n9 S 1809 [(0, .ref b9), (1, .ref v1), (2, .ref v2), (3, .ref v3), (4, .int v4)] [] := by
  unfold F_L_law__1809 at h
  refine aw_aload_n 1 dL_law__1809 rfl rfl ?_
  refine aw_aload_n 0 dL_law__1810 rfl rfl ?_
  refine aw_iload 4 dL_law__1811 rfl ?_
  refine aw_iconst 1 dL_law__1813 rfl ?_
  refine aw_iadd dL_law__1814 ?_
  refine aw_sld hsc dL_law__1815 h (fun x1 h => ?_)
  refine aw_aload_n 0 dL_law__1816 rfl rfl ?_
  refine aw_iload 4 dL_law__1817 rfl ?_
  refine aw_iconst 2 dL_law__1819 rfl ?_
  refine aw_iadd dL_law__1820 ?_
  refine aw_sld hsc dL_law__1821 h (fun x2 h => ?_)
  refine aw_aload_n 3 dL_law__1822 rfl rfl ?_
  refine aw_doneI (rest := []) h (fun r9 S9 hF => aw_runSH (As := [.ref v1, .int x1, .int x2, .ref v3]) (rest := []) (L1_L_watch hl0 N hF) wd_1174 wd_1172 wd_1173 wd_86 pd_L_watch.2 rfl (ax_rmL rfl rfl) (ax_hfLw (by omega) (by omega)) (Nat.le_of_ble_eq_true rfl) rfl dL_law__1823) (fun x4 T3 h => ?_)
  refine aw_istore [(5, .int x4), (0, .ref b9), (1, .ref v1), (2, .ref v2), (3, .ref v3), (4, .int v4)] dL_law__1826 rfl rfl ?_
  refine aw_aload_n 3 dL_law__1828 rfl rfl ?_
  refine aw_aload_n 1 dL_law__1829 rfl rfl ?_
  refine aw_iload 5 dL_law__1830 rfl ?_
  refine aw_iconst 1 dL_law__1832 rfl ?_
  refine aw_iadd dL_law__1833 ?_
  refine aw_sld hsc dL_law__1834 h (fun x5 h => ?_)
  refine aw_aload_n 1 dL_law__1835 rfl rfl ?_
  refine aw_iload 5 dL_law__1836 rfl ?_
  refine aw_iconst 2 dL_law__1838 rfl ?_
  refine aw_iadd dL_law__1839 ?_
  refine aw_sld hsc dL_law__1840 h (fun x6 h => ?_)
  obtain ⟨hL7, h⟩ := ax_is_spec h
  refine aw_doneI (rest := []) h (fun r9 S9 hF => aw_runV (As := [.int x5, .int x6]) (rest := []) (L1_X10_watch N hF) axc10 hL7 wd_1770 wd_1767 wd_1768 wd_1769 wd_97 pd_X10_watch rfl (ax_rmL rfl rfl) (ax_hfLw (by omega) (by omega)) (Nat.le_of_ble_eq_true rfl) rfl dL_law__1841) (fun x9 T8 h => ?_)
  refine aw_istore [(6, .int x9), (5, .int x4), (0, .ref b9), (1, .ref v1), (2, .ref v2), (3, .ref v3), (4, .int v4)] dL_law__1844 rfl rfl ?_
  refine aw_aload_n 4 dL_law__1846 rfl rfl ?_
  obtain ⟨hL10, h⟩ := ax_is_spec h
  refine aw_doneI (rest := []) h (fun r9 S9 hF => aw_runV (As := []) (rest := []) (L1_X10_thrown N hF) axc10 hL10 wd_1437 wd_1434 wd_1435 wd_1436 wd_97 pd_X10_thrown rfl (ax_rmL rfl rfl) (ax_hfLw (by omega) (by omega)) (Nat.le_of_ble_eq_true rfl) rfl dL_law__1847) (fun x12 T11 h => ?_)
  refine aw_iload 1 dL_law__1850 rfl ?_
  refine aw_icmp_eq 1857 dL_law__1852 (by decide) h (fun h => ?_) (fun h => ?_)
  · refine aw_iload 1 dL_law__1857 rfl ?_
    refine aw_if_ne 1874 dL_law__1859 (by decide) h (fun h => ?_) (fun h => ?_)
    · refine aw_env [(0, .ref b9), (1, .ref v1), (2, .ref v2), (3, .ref v3), (4, .int v4)] [2, 3, 4, 5, 6] rfl ?_
      exact L1_L_law__1874 hl0 N b9 L9 xs9 hsc n23 K23 hK23 v1 v2 v3 v4 T11 _ _ (by omega) (by omega) h
    · refine aw_aload_n 5 dL_law__1862 rfl rfl ?_
      refine aw_iconst 0 dL_law__1863 rfl ?_
      refine aw_lald dL_law__1864 h (fun x13 h => ?_)
      refine aw_iload 0 dL_law__1865 rfl ?_
      refine aw_i2l dL_law__1867 ?_
      refine aw_lcmp dL_law__1868 ?_
      refine aw_if_eq 1874 dL_law__1869 (by decide) h (fun h => ?_) (fun h => ?_)
      · refine aw_env [(0, .ref b9), (1, .ref v1), (2, .ref v2), (3, .ref v3), (4, .int v4)] [2, 3, 4, 5, 6] rfl ?_
        exact L1_L_law__1874 hl0 N b9 L9 xs9 hsc n23 K23 hK23 v1 v2 v3 v4 T11 _ _ (by omega) (by omega) h
      · refine aw_iconst 0 dL_law__1872 rfl ?_
        exact aw_lawret rfl rfl dL_law__1873 (by omega) (by omega) h
  · refine aw_iconst 0 dL_law__1855 rfl ?_
    exact aw_lawret rfl rfl dL_law__1856 (by omega) (by omega) h
theorem L1_L_law__1942 {g : AxG} {l : Launch} (hl0 : l.stackTraces = false) {S9 : AxS} (N : Nat) (b9 : Nat) (L9 : Nat) (xs9 : Nat → Int32) (hsc : g.2.2.2.2.2.1 = b9 ∧ g.2.2.2.2.2.2.1 = L9 ∧ g.2.2.2.2.2.2.2.1 = xs9) (n23 : Nat) (K23 : Nat → Nat → Nat → Int32 → AxS → Option (Int32 × AxS)) (hK23 : ∀ (v1 : Nat) (v2 : Nat) (v3 : Nat) (v4 : Int32) (S : AxS) (k9 n9 : Nat) (hk9 : k9 + 1 * (n23) ≤ 601024) (hn9 : n9 + 6 * (n23) ≤ 7293034), K23 v1 v2 v3 v4 S = some ((1, S9)) → AW g l room_1 mt_L_law_ (axLQ g) k9 n9 S 23 [(0, .ref b9), (1, .ref v1), (2, .ref v2), (3, .ref v3), (4, .int v4)] []) (v1 : Nat) (v2 : Nat) (v3 : Nat) (v4 : Int32) (S : AxS) (k9 n9 : Nat) (hk9 : k9 + 1 * (n23) ≤ 601024) (hn9 : n9 + 6 * (n23) ≤ 7293034) (h : F_L_law__1942 N L9 xs9 K23 v1 v2 v3 v4 S = some ((1, S9))) : AW g l room_1 mt_L_law_ (axLQ g) k9 n9 S 1942 [(0, .ref b9), (1, .ref v1), (2, .ref v2), (3, .ref v3), (4, .int v4)] [] := by
  unfold F_L_law__1942 at h
  refine aw_goto 2507 dL_law__1942 (by decide) ?_
  refine aw_env [(0, .ref b9), (1, .ref v1), (2, .ref v2), (3, .ref v3), (4, .int v4)] [0, 1, 2, 3, 4] rfl ?_
  exact L1_L_law__2507 hl0 N b9 L9 xs9 hsc n23 K23 hK23 v1 v2 v3 v4 S _ _ (by omega) (by omega) h
theorem L1_L_law__1877 {g : AxG} {l : Launch} (hl0 : l.stackTraces = false) {S9 : AxS} (N : Nat) (b9 : Nat) (L9 : Nat) (xs9 : Nat → Int32) (hsc : g.2.2.2.2.2.1 = b9 ∧ g.2.2.2.2.2.2.1 = L9 ∧ g.2.2.2.2.2.2.2.1 = xs9) (n23 : Nat) (K23 : Nat → Nat → Nat → Int32 → AxS → Option (Int32 × AxS)) (hK23 : ∀ (v1 : Nat) (v2 : Nat) (v3 : Nat) (v4 : Int32) (S : AxS) (k9 n9 : Nat) (hk9 : k9 + 1 * (n23) ≤ 601024) (hn9 : n9 + 6 * (n23) ≤ 7293034), K23 v1 v2 v3 v4 S = some ((1, S9)) → AW g l room_1 mt_L_law_ (axLQ g) k9 n9 S 23 [(0, .ref b9), (1, .ref v1), (2, .ref v2), (3, .ref v3), (4, .int v4)] []) (v1 : Nat) (v2 : Nat) (v3 : Nat) (v4 : Int32) (S : AxS) (k9 n9 : Nat) (hk9 : k9 + 1 * (n23 + 1) ≤ 601024) (hn9 : n9 + 6 * (n23 + 1) ≤ 7293034) (h : F_L_law__1877 N L9 xs9 K23 v1 v2 v3 v4 S = some ((1, S9))) : AW g l room_1 mt_L_law_ (axLQ g) k9 n9 S 1877 [(0, .ref b9), (1, .ref v1), (2, .ref v2), (3, .ref v3), (4, .int v4)] [] := by
  unfold F_L_law__1877 at h
  refine aw_aload_n 1 dL_law__1877 rfl rfl ?_
  refine aw_aload_n 0 dL_law__1878 rfl rfl ?_
  refine aw_iload 4 dL_law__1879 rfl ?_
  refine aw_iconst 1 dL_law__1881 rfl ?_
  refine aw_iadd dL_law__1882 ?_
  refine aw_sld hsc dL_law__1883 h (fun x1 h => ?_)
  refine aw_aload_n 0 dL_law__1884 rfl rfl ?_
  refine aw_iload 4 dL_law__1885 rfl ?_
  refine aw_iconst 2 dL_law__1887 rfl ?_
  refine aw_iadd dL_law__1888 ?_
  refine aw_sld hsc dL_law__1889 h (fun x2 h => ?_)
  refine aw_aload_n 3 dL_law__1890 rfl rfl ?_
  refine aw_doneI (rest := []) h (fun r9 S9 hF => aw_runSH (As := [.ref v1, .int x1, .int x2, .ref v3]) (rest := []) (L1_L_heirs hl0 N hF) wd_1181 wd_1179 wd_1180 wd_86 pd_L_heirs.2 rfl (ax_rmL rfl rfl) (ax_hfLw (by omega) (by omega)) (Nat.le_of_ble_eq_true rfl) rfl dL_law__1891) (fun x4 T3 h => ?_)
  refine aw_istore [(5, .int x4), (0, .ref b9), (1, .ref v1), (2, .ref v2), (3, .ref v3), (4, .int v4)] dL_law__1894 rfl rfl ?_
  refine aw_aload_n 3 dL_law__1896 rfl rfl ?_
  refine aw_aload_n 1 dL_law__1897 rfl rfl ?_
  refine aw_iload 5 dL_law__1898 rfl ?_
  refine aw_iconst 1 dL_law__1900 rfl ?_
  refine aw_iadd dL_law__1901 ?_
  refine aw_sld hsc dL_law__1902 h (fun x5 h => ?_)
  refine aw_aload_n 1 dL_law__1903 rfl rfl ?_
  refine aw_iload 5 dL_law__1904 rfl ?_
  refine aw_iconst 2 dL_law__1906 rfl ?_
  refine aw_iadd dL_law__1907 ?_
  refine aw_sld hsc dL_law__1908 h (fun x6 h => ?_)
  obtain ⟨hL7, h⟩ := ax_is_spec h
  refine aw_doneI (rest := []) h (fun r9 S9 hF => aw_runV (As := [.int x5, .int x6]) (rest := []) (L1_X10_heirs N hF) axc10 hL7 wd_1778 wd_1775 wd_1776 wd_1777 wd_97 pd_X10_heirs rfl (ax_rmL rfl rfl) (ax_hfLw (by omega) (by omega)) (Nat.le_of_ble_eq_true rfl) rfl dL_law__1909) (fun x9 T8 h => ?_)
  refine aw_istore [(6, .int x9), (5, .int x4), (0, .ref b9), (1, .ref v1), (2, .ref v2), (3, .ref v3), (4, .int v4)] dL_law__1912 rfl rfl ?_
  refine aw_aload_n 4 dL_law__1914 rfl rfl ?_
  obtain ⟨hL10, h⟩ := ax_is_spec h
  refine aw_doneI (rest := []) h (fun r9 S9 hF => aw_runV (As := []) (rest := []) (L1_X10_thrown N hF) axc10 hL10 wd_1437 wd_1434 wd_1435 wd_1436 wd_97 pd_X10_thrown rfl (ax_rmL rfl rfl) (ax_hfLw (by omega) (by omega)) (Nat.le_of_ble_eq_true rfl) rfl dL_law__1915) (fun x12 T11 h => ?_)
  refine aw_iload 1 dL_law__1918 rfl ?_
  refine aw_icmp_eq 1925 dL_law__1920 (by decide) h (fun h => ?_) (fun h => ?_)
  · refine aw_iload 1 dL_law__1925 rfl ?_
    refine aw_if_ne 1942 dL_law__1927 (by decide) h (fun h => ?_) (fun h => ?_)
    · refine aw_env [(0, .ref b9), (1, .ref v1), (2, .ref v2), (3, .ref v3), (4, .int v4)] [2, 3, 4, 5, 6] rfl ?_
      exact L1_L_law__1942 hl0 N b9 L9 xs9 hsc n23 K23 hK23 v1 v2 v3 v4 T11 _ _ (by omega) (by omega) h
    · refine aw_aload_n 5 dL_law__1930 rfl rfl ?_
      refine aw_iconst 0 dL_law__1931 rfl ?_
      refine aw_lald dL_law__1932 h (fun x13 h => ?_)
      refine aw_iload 0 dL_law__1933 rfl ?_
      refine aw_i2l dL_law__1935 ?_
      refine aw_lcmp dL_law__1936 ?_
      refine aw_if_eq 1942 dL_law__1937 (by decide) h (fun h => ?_) (fun h => ?_)
      · refine aw_env [(0, .ref b9), (1, .ref v1), (2, .ref v2), (3, .ref v3), (4, .int v4)] [2, 3, 4, 5, 6] rfl ?_
        exact L1_L_law__1942 hl0 N b9 L9 xs9 hsc n23 K23 hK23 v1 v2 v3 v4 T11 _ _ (by omega) (by omega) h
      · refine aw_iconst 0 dL_law__1940 rfl ?_
        exact aw_lawret rfl rfl dL_law__1941 (by omega) (by omega) h
  · refine aw_iconst 0 dL_law__1923 rfl ?_
    exact aw_lawret rfl rfl dL_law__1924 (by omega) (by omega) h
theorem L1_L_law__1998 {g : AxG} {l : Launch} (hl0 : l.stackTraces = false) {S9 : AxS} (N : Nat) (b9 : Nat) (L9 : Nat) (xs9 : Nat → Int32) (hsc : g.2.2.2.2.2.1 = b9 ∧ g.2.2.2.2.2.2.1 = L9 ∧ g.2.2.2.2.2.2.2.1 = xs9) (n23 : Nat) (K23 : Nat → Nat → Nat → Int32 → AxS → Option (Int32 × AxS)) (hK23 : ∀ (v1 : Nat) (v2 : Nat) (v3 : Nat) (v4 : Int32) (S : AxS) (k9 n9 : Nat) (hk9 : k9 + 1 * (n23) ≤ 601024) (hn9 : n9 + 6 * (n23) ≤ 7293034), K23 v1 v2 v3 v4 S = some ((1, S9)) → AW g l room_1 mt_L_law_ (axLQ g) k9 n9 S 23 [(0, .ref b9), (1, .ref v1), (2, .ref v2), (3, .ref v3), (4, .int v4)] []) (v1 : Nat) (v2 : Nat) (v3 : Nat) (v4 : Int32) (S : AxS) (k9 n9 : Nat) (hk9 : k9 + 1 * (n23) ≤ 601024) (hn9 : n9 + 6 * (n23) ≤ 7293034) (h : F_L_law__1998 N L9 xs9 K23 v1 v2 v3 v4 S = some ((1, S9))) : AW g l room_1 mt_L_law_ (axLQ g) k9 n9 S 1998 [(0, .ref b9), (1, .ref v1), (2, .ref v2), (3, .ref v3), (4, .int v4)] [] := by
  unfold F_L_law__1998 at h
  refine aw_goto 2507 dL_law__1998 (by decide) ?_
  refine aw_env [(0, .ref b9), (1, .ref v1), (2, .ref v2), (3, .ref v3), (4, .int v4)] [0, 1, 2, 3, 4] rfl ?_
  exact L1_L_law__2507 hl0 N b9 L9 xs9 hsc n23 K23 hK23 v1 v2 v3 v4 S _ _ (by omega) (by omega) h
theorem L1_L_law__1945 {g : AxG} {l : Launch} (hl0 : l.stackTraces = false) {S9 : AxS} (N : Nat) (b9 : Nat) (L9 : Nat) (xs9 : Nat → Int32) (hsc : g.2.2.2.2.2.1 = b9 ∧ g.2.2.2.2.2.2.1 = L9 ∧ g.2.2.2.2.2.2.2.1 = xs9) (n23 : Nat) (K23 : Nat → Nat → Nat → Int32 → AxS → Option (Int32 × AxS)) (hK23 : ∀ (v1 : Nat) (v2 : Nat) (v3 : Nat) (v4 : Int32) (S : AxS) (k9 n9 : Nat) (hk9 : k9 + 1 * (n23) ≤ 601024) (hn9 : n9 + 6 * (n23) ≤ 7293034), K23 v1 v2 v3 v4 S = some ((1, S9)) → AW g l room_1 mt_L_law_ (axLQ g) k9 n9 S 23 [(0, .ref b9), (1, .ref v1), (2, .ref v2), (3, .ref v3), (4, .int v4)] []) (v1 : Nat) (v2 : Nat) (v3 : Nat) (v4 : Int32) (S : AxS) (k9 n9 : Nat) (hk9 : k9 + 1 * (n23 + 1) ≤ 601024) (hn9 : n9 + 6 * (n23 + 1) ≤ 7293034) (h : F_L_law__1945 N L9 xs9 K23 v1 v2 v3 v4 S = some ((1, S9))) : AW g l room_1 mt_L_law_ (axLQ g) k9 n9 S 1945 [(0, .ref b9), (1, .ref v1), (2, .ref v2), (3, .ref v3), (4, .int v4)] [] := by
  unfold F_L_law__1945 at h
  refine aw_aload_n 1 dL_law__1945 rfl rfl ?_
  refine aw_aload_n 0 dL_law__1946 rfl rfl ?_
  refine aw_iload 4 dL_law__1947 rfl ?_
  refine aw_iconst 1 dL_law__1949 rfl ?_
  refine aw_iadd dL_law__1950 ?_
  refine aw_sld hsc dL_law__1951 h (fun x1 h => ?_)
  refine aw_aload_n 3 dL_law__1952 rfl rfl ?_
  refine aw_doneI (rest := []) h (fun r9 S9 hF => aw_runSH (As := [.ref v1, .int x1, .ref v3]) (rest := []) (L1_L_sleepers hl0 N hF) wd_1208 wd_1206 wd_1207 wd_86 pd_L_sleepers.2 rfl (ax_rmL rfl rfl) (ax_hfLw (by omega) (by omega)) (Nat.le_of_ble_eq_true rfl) rfl dL_law__1953) (fun x3 T2 h => ?_)
  refine aw_istore [(5, .int x3), (0, .ref b9), (1, .ref v1), (2, .ref v2), (3, .ref v3), (4, .int v4)] dL_law__1956 rfl rfl ?_
  refine aw_aload_n 3 dL_law__1958 rfl rfl ?_
  refine aw_aload_n 1 dL_law__1959 rfl rfl ?_
  refine aw_iload 5 dL_law__1960 rfl ?_
  refine aw_iconst 1 dL_law__1962 rfl ?_
  refine aw_iadd dL_law__1963 ?_
  refine aw_sld hsc dL_law__1964 h (fun x4 h => ?_)
  obtain ⟨hL5, h⟩ := ax_is_spec h
  refine aw_doneI (rest := []) h (fun r9 S9 hF => aw_runV (As := [.int x4]) (rest := []) (L1_X10_sleepers N hF) axc10 hL5 wd_1681 wd_1678 wd_1679 wd_1680 wd_97 pd_X10_sleepers rfl (ax_rmL rfl rfl) (ax_hfLw (by omega) (by omega)) (Nat.le_of_ble_eq_true rfl) rfl dL_law__1965) (fun x7 T6 h => ?_)
  refine aw_istore [(6, .int x7), (5, .int x3), (0, .ref b9), (1, .ref v1), (2, .ref v2), (3, .ref v3), (4, .int v4)] dL_law__1968 rfl rfl ?_
  refine aw_aload_n 4 dL_law__1970 rfl rfl ?_
  obtain ⟨hL8, h⟩ := ax_is_spec h
  refine aw_doneI (rest := []) h (fun r9 S9 hF => aw_runV (As := []) (rest := []) (L1_X10_thrown N hF) axc10 hL8 wd_1437 wd_1434 wd_1435 wd_1436 wd_97 pd_X10_thrown rfl (ax_rmL rfl rfl) (ax_hfLw (by omega) (by omega)) (Nat.le_of_ble_eq_true rfl) rfl dL_law__1971) (fun x10 T9 h => ?_)
  refine aw_iload 1 dL_law__1974 rfl ?_
  refine aw_icmp_eq 1981 dL_law__1976 (by decide) h (fun h => ?_) (fun h => ?_)
  · refine aw_iload 1 dL_law__1981 rfl ?_
    refine aw_if_ne 1998 dL_law__1983 (by decide) h (fun h => ?_) (fun h => ?_)
    · refine aw_env [(0, .ref b9), (1, .ref v1), (2, .ref v2), (3, .ref v3), (4, .int v4)] [2, 3, 4, 5, 6] rfl ?_
      exact L1_L_law__1998 hl0 N b9 L9 xs9 hsc n23 K23 hK23 v1 v2 v3 v4 T9 _ _ (by omega) (by omega) h
    · refine aw_aload_n 5 dL_law__1986 rfl rfl ?_
      refine aw_iconst 0 dL_law__1987 rfl ?_
      refine aw_lald dL_law__1988 h (fun x11 h => ?_)
      refine aw_iload 0 dL_law__1989 rfl ?_
      refine aw_i2l dL_law__1991 ?_
      refine aw_lcmp dL_law__1992 ?_
      refine aw_if_eq 1998 dL_law__1993 (by decide) h (fun h => ?_) (fun h => ?_)
      · refine aw_env [(0, .ref b9), (1, .ref v1), (2, .ref v2), (3, .ref v3), (4, .int v4)] [2, 3, 4, 5, 6] rfl ?_
        exact L1_L_law__1998 hl0 N b9 L9 xs9 hsc n23 K23 hK23 v1 v2 v3 v4 T9 _ _ (by omega) (by omega) h
      · refine aw_iconst 0 dL_law__1996 rfl ?_
        exact aw_lawret rfl rfl dL_law__1997 (by omega) (by omega) h
  · refine aw_iconst 0 dL_law__1979 rfl ?_
    exact aw_lawret rfl rfl dL_law__1980 (by omega) (by omega) h
theorem L1_L_law__2054 {g : AxG} {l : Launch} (hl0 : l.stackTraces = false) {S9 : AxS} (N : Nat) (b9 : Nat) (L9 : Nat) (xs9 : Nat → Int32) (hsc : g.2.2.2.2.2.1 = b9 ∧ g.2.2.2.2.2.2.1 = L9 ∧ g.2.2.2.2.2.2.2.1 = xs9) (n23 : Nat) (K23 : Nat → Nat → Nat → Int32 → AxS → Option (Int32 × AxS)) (hK23 : ∀ (v1 : Nat) (v2 : Nat) (v3 : Nat) (v4 : Int32) (S : AxS) (k9 n9 : Nat) (hk9 : k9 + 1 * (n23) ≤ 601024) (hn9 : n9 + 6 * (n23) ≤ 7293034), K23 v1 v2 v3 v4 S = some ((1, S9)) → AW g l room_1 mt_L_law_ (axLQ g) k9 n9 S 23 [(0, .ref b9), (1, .ref v1), (2, .ref v2), (3, .ref v3), (4, .int v4)] []) (v1 : Nat) (v2 : Nat) (v3 : Nat) (v4 : Int32) (S : AxS) (k9 n9 : Nat) (hk9 : k9 + 1 * (n23) ≤ 601024) (hn9 : n9 + 6 * (n23) ≤ 7293034) (h : F_L_law__2054 N L9 xs9 K23 v1 v2 v3 v4 S = some ((1, S9))) : AW g l room_1 mt_L_law_ (axLQ g) k9 n9 S 2054 [(0, .ref b9), (1, .ref v1), (2, .ref v2), (3, .ref v3), (4, .int v4)] [] := by
  unfold F_L_law__2054 at h
  refine aw_goto 2507 dL_law__2054 (by decide) ?_
  refine aw_env [(0, .ref b9), (1, .ref v1), (2, .ref v2), (3, .ref v3), (4, .int v4)] [0, 1, 2, 3, 4] rfl ?_
  exact L1_L_law__2507 hl0 N b9 L9 xs9 hsc n23 K23 hK23 v1 v2 v3 v4 S _ _ (by omega) (by omega) h
theorem L1_L_law__2001 {g : AxG} {l : Launch} (hl0 : l.stackTraces = false) {S9 : AxS} (N : Nat) (b9 : Nat) (L9 : Nat) (xs9 : Nat → Int32) (hsc : g.2.2.2.2.2.1 = b9 ∧ g.2.2.2.2.2.2.1 = L9 ∧ g.2.2.2.2.2.2.2.1 = xs9) (n23 : Nat) (K23 : Nat → Nat → Nat → Int32 → AxS → Option (Int32 × AxS)) (hK23 : ∀ (v1 : Nat) (v2 : Nat) (v3 : Nat) (v4 : Int32) (S : AxS) (k9 n9 : Nat) (hk9 : k9 + 1 * (n23) ≤ 601024) (hn9 : n9 + 6 * (n23) ≤ 7293034), K23 v1 v2 v3 v4 S = some ((1, S9)) → AW g l room_1 mt_L_law_ (axLQ g) k9 n9 S 23 [(0, .ref b9), (1, .ref v1), (2, .ref v2), (3, .ref v3), (4, .int v4)] []) (v1 : Nat) (v2 : Nat) (v3 : Nat) (v4 : Int32) (S : AxS) (k9 n9 : Nat) (hk9 : k9 + 1 * (n23 + 1) ≤ 601024) (hn9 : n9 + 6 * (n23 + 1) ≤ 7293034) (h : F_L_law__2001 N L9 xs9 K23 v1 v2 v3 v4 S = some ((1, S9))) : AW g l room_1 mt_L_law_ (axLQ g) k9 n9 S 2001 [(0, .ref b9), (1, .ref v1), (2, .ref v2), (3, .ref v3), (4, .int v4)] [] := by
  unfold F_L_law__2001 at h
  refine aw_aload_n 1 dL_law__2001 rfl rfl ?_
  refine aw_aload_n 0 dL_law__2002 rfl rfl ?_
  refine aw_iload 4 dL_law__2003 rfl ?_
  refine aw_iconst 1 dL_law__2005 rfl ?_
  refine aw_iadd dL_law__2006 ?_
  refine aw_sld hsc dL_law__2007 h (fun x1 h => ?_)
  refine aw_aload_n 3 dL_law__2008 rfl rfl ?_
  refine aw_doneI (rest := []) h (fun r9 S9 hF => aw_runSH (As := [.ref v1, .int x1, .ref v3]) (rest := []) (L1_L_grows hl0 N hF) wd_1215 wd_1213 wd_1214 wd_86 pd_L_grows.2 rfl (ax_rmL rfl rfl) (ax_hfLw (by omega) (by omega)) (Nat.le_of_ble_eq_true rfl) rfl dL_law__2009) (fun x3 T2 h => ?_)
  refine aw_istore [(5, .int x3), (0, .ref b9), (1, .ref v1), (2, .ref v2), (3, .ref v3), (4, .int v4)] dL_law__2012 rfl rfl ?_
  refine aw_aload_n 3 dL_law__2014 rfl rfl ?_
  refine aw_aload_n 1 dL_law__2015 rfl rfl ?_
  refine aw_iload 5 dL_law__2016 rfl ?_
  refine aw_iconst 1 dL_law__2018 rfl ?_
  refine aw_iadd dL_law__2019 ?_
  refine aw_sld hsc dL_law__2020 h (fun x4 h => ?_)
  obtain ⟨hL5, h⟩ := ax_is_spec h
  refine aw_doneI (rest := []) h (fun r9 S9 hF => aw_runV (As := [.int x4]) (rest := []) (L1_X10_grows N hF) axc10 hL5 wd_1689 wd_1686 wd_1687 wd_1688 wd_97 pd_X10_grows rfl (ax_rmL rfl rfl) (ax_hfLw (by omega) (by omega)) (Nat.le_of_ble_eq_true rfl) rfl dL_law__2021) (fun x7 T6 h => ?_)
  refine aw_istore [(6, .int x7), (5, .int x3), (0, .ref b9), (1, .ref v1), (2, .ref v2), (3, .ref v3), (4, .int v4)] dL_law__2024 rfl rfl ?_
  refine aw_aload_n 4 dL_law__2026 rfl rfl ?_
  obtain ⟨hL8, h⟩ := ax_is_spec h
  refine aw_doneI (rest := []) h (fun r9 S9 hF => aw_runV (As := []) (rest := []) (L1_X10_thrown N hF) axc10 hL8 wd_1437 wd_1434 wd_1435 wd_1436 wd_97 pd_X10_thrown rfl (ax_rmL rfl rfl) (ax_hfLw (by omega) (by omega)) (Nat.le_of_ble_eq_true rfl) rfl dL_law__2027) (fun x10 T9 h => ?_)
  refine aw_iload 1 dL_law__2030 rfl ?_
  refine aw_icmp_eq 2037 dL_law__2032 (by decide) h (fun h => ?_) (fun h => ?_)
  · refine aw_iload 1 dL_law__2037 rfl ?_
    refine aw_if_ne 2054 dL_law__2039 (by decide) h (fun h => ?_) (fun h => ?_)
    · refine aw_env [(0, .ref b9), (1, .ref v1), (2, .ref v2), (3, .ref v3), (4, .int v4)] [2, 3, 4, 5, 6] rfl ?_
      exact L1_L_law__2054 hl0 N b9 L9 xs9 hsc n23 K23 hK23 v1 v2 v3 v4 T9 _ _ (by omega) (by omega) h
    · refine aw_aload_n 5 dL_law__2042 rfl rfl ?_
      refine aw_iconst 0 dL_law__2043 rfl ?_
      refine aw_lald dL_law__2044 h (fun x11 h => ?_)
      refine aw_iload 0 dL_law__2045 rfl ?_
      refine aw_i2l dL_law__2047 ?_
      refine aw_lcmp dL_law__2048 ?_
      refine aw_if_eq 2054 dL_law__2049 (by decide) h (fun h => ?_) (fun h => ?_)
      · refine aw_env [(0, .ref b9), (1, .ref v1), (2, .ref v2), (3, .ref v3), (4, .int v4)] [2, 3, 4, 5, 6] rfl ?_
        exact L1_L_law__2054 hl0 N b9 L9 xs9 hsc n23 K23 hK23 v1 v2 v3 v4 T9 _ _ (by omega) (by omega) h
      · refine aw_iconst 0 dL_law__2052 rfl ?_
        exact aw_lawret rfl rfl dL_law__2053 (by omega) (by omega) h
  · refine aw_iconst 0 dL_law__2035 rfl ?_
    exact aw_lawret rfl rfl dL_law__2036 (by omega) (by omega) h
theorem L1_L_law__2122 {g : AxG} {l : Launch} (hl0 : l.stackTraces = false) {S9 : AxS} (N : Nat) (b9 : Nat) (L9 : Nat) (xs9 : Nat → Int32) (hsc : g.2.2.2.2.2.1 = b9 ∧ g.2.2.2.2.2.2.1 = L9 ∧ g.2.2.2.2.2.2.2.1 = xs9) (n23 : Nat) (K23 : Nat → Nat → Nat → Int32 → AxS → Option (Int32 × AxS)) (hK23 : ∀ (v1 : Nat) (v2 : Nat) (v3 : Nat) (v4 : Int32) (S : AxS) (k9 n9 : Nat) (hk9 : k9 + 1 * (n23) ≤ 601024) (hn9 : n9 + 6 * (n23) ≤ 7293034), K23 v1 v2 v3 v4 S = some ((1, S9)) → AW g l room_1 mt_L_law_ (axLQ g) k9 n9 S 23 [(0, .ref b9), (1, .ref v1), (2, .ref v2), (3, .ref v3), (4, .int v4)] []) (v1 : Nat) (v2 : Nat) (v3 : Nat) (v4 : Int32) (S : AxS) (k9 n9 : Nat) (hk9 : k9 + 1 * (n23) ≤ 601024) (hn9 : n9 + 6 * (n23) ≤ 7293034) (h : F_L_law__2122 N L9 xs9 K23 v1 v2 v3 v4 S = some ((1, S9))) : AW g l room_1 mt_L_law_ (axLQ g) k9 n9 S 2122 [(0, .ref b9), (1, .ref v1), (2, .ref v2), (3, .ref v3), (4, .int v4)] [] := by
  unfold F_L_law__2122 at h
  refine aw_goto 2507 dL_law__2122 (by decide) ?_
  refine aw_env [(0, .ref b9), (1, .ref v1), (2, .ref v2), (3, .ref v3), (4, .int v4)] [0, 1, 2, 3, 4] rfl ?_
  exact L1_L_law__2507 hl0 N b9 L9 xs9 hsc n23 K23 hK23 v1 v2 v3 v4 S _ _ (by omega) (by omega) h
theorem L1_L_law__2057 {g : AxG} {l : Launch} (hl0 : l.stackTraces = false) {S9 : AxS} (N : Nat) (b9 : Nat) (L9 : Nat) (xs9 : Nat → Int32) (hsc : g.2.2.2.2.2.1 = b9 ∧ g.2.2.2.2.2.2.1 = L9 ∧ g.2.2.2.2.2.2.2.1 = xs9) (n23 : Nat) (K23 : Nat → Nat → Nat → Int32 → AxS → Option (Int32 × AxS)) (hK23 : ∀ (v1 : Nat) (v2 : Nat) (v3 : Nat) (v4 : Int32) (S : AxS) (k9 n9 : Nat) (hk9 : k9 + 1 * (n23) ≤ 601024) (hn9 : n9 + 6 * (n23) ≤ 7293034), K23 v1 v2 v3 v4 S = some ((1, S9)) → AW g l room_1 mt_L_law_ (axLQ g) k9 n9 S 23 [(0, .ref b9), (1, .ref v1), (2, .ref v2), (3, .ref v3), (4, .int v4)] []) (v1 : Nat) (v2 : Nat) (v3 : Nat) (v4 : Int32) (S : AxS) (k9 n9 : Nat) (hk9 : k9 + 1 * (n23 + 1) ≤ 601024) (hn9 : n9 + 6 * (n23 + 1) ≤ 7293034) (h : F_L_law__2057 N L9 xs9 K23 v1 v2 v3 v4 S = some ((1, S9))) : AW g l room_1 mt_L_law_ (axLQ g) k9 n9 S 2057 [(0, .ref b9), (1, .ref v1), (2, .ref v2), (3, .ref v3), (4, .int v4)] [] := by
  unfold F_L_law__2057 at h
  refine aw_aload_n 1 dL_law__2057 rfl rfl ?_
  refine aw_aload_n 0 dL_law__2058 rfl rfl ?_
  refine aw_iload 4 dL_law__2059 rfl ?_
  refine aw_iconst 1 dL_law__2061 rfl ?_
  refine aw_iadd dL_law__2062 ?_
  refine aw_sld hsc dL_law__2063 h (fun x1 h => ?_)
  refine aw_aload_n 0 dL_law__2064 rfl rfl ?_
  refine aw_iload 4 dL_law__2065 rfl ?_
  refine aw_iconst 2 dL_law__2067 rfl ?_
  refine aw_iadd dL_law__2068 ?_
  refine aw_sld hsc dL_law__2069 h (fun x2 h => ?_)
  refine aw_aload_n 3 dL_law__2070 rfl rfl ?_
  refine aw_doneI (rest := []) h (fun r9 S9 hF => aw_runSH (As := [.ref v1, .int x1, .int x2, .ref v3]) (rest := []) (L1_L_bears hl0 N hF) wd_1222 wd_1220 wd_1221 wd_86 pd_L_bears.2 rfl (ax_rmL rfl rfl) (ax_hfLw (by omega) (by omega)) (Nat.le_of_ble_eq_true rfl) rfl dL_law__2071) (fun x4 T3 h => ?_)
  refine aw_istore [(5, .int x4), (0, .ref b9), (1, .ref v1), (2, .ref v2), (3, .ref v3), (4, .int v4)] dL_law__2074 rfl rfl ?_
  refine aw_aload_n 3 dL_law__2076 rfl rfl ?_
  refine aw_aload_n 1 dL_law__2077 rfl rfl ?_
  refine aw_iload 5 dL_law__2078 rfl ?_
  refine aw_iconst 1 dL_law__2080 rfl ?_
  refine aw_iadd dL_law__2081 ?_
  refine aw_sld hsc dL_law__2082 h (fun x5 h => ?_)
  refine aw_aload_n 1 dL_law__2083 rfl rfl ?_
  refine aw_iload 5 dL_law__2084 rfl ?_
  refine aw_iconst 2 dL_law__2086 rfl ?_
  refine aw_iadd dL_law__2087 ?_
  refine aw_sld hsc dL_law__2088 h (fun x6 h => ?_)
  obtain ⟨hL7, h⟩ := ax_is_spec h
  refine aw_doneI (rest := []) h (fun r9 S9 hF => aw_runV (As := [.int x5, .int x6]) (rest := []) (L1_X10_bears N hF) axc10 hL7 wd_1685 wd_1682 wd_1683 wd_1684 wd_97 pd_X10_bears rfl (ax_rmL rfl rfl) (ax_hfLw (by omega) (by omega)) (Nat.le_of_ble_eq_true rfl) rfl dL_law__2089) (fun x9 T8 h => ?_)
  refine aw_istore [(6, .int x9), (5, .int x4), (0, .ref b9), (1, .ref v1), (2, .ref v2), (3, .ref v3), (4, .int v4)] dL_law__2092 rfl rfl ?_
  refine aw_aload_n 4 dL_law__2094 rfl rfl ?_
  obtain ⟨hL10, h⟩ := ax_is_spec h
  refine aw_doneI (rest := []) h (fun r9 S9 hF => aw_runV (As := []) (rest := []) (L1_X10_thrown N hF) axc10 hL10 wd_1437 wd_1434 wd_1435 wd_1436 wd_97 pd_X10_thrown rfl (ax_rmL rfl rfl) (ax_hfLw (by omega) (by omega)) (Nat.le_of_ble_eq_true rfl) rfl dL_law__2095) (fun x12 T11 h => ?_)
  refine aw_iload 1 dL_law__2098 rfl ?_
  refine aw_icmp_eq 2105 dL_law__2100 (by decide) h (fun h => ?_) (fun h => ?_)
  · refine aw_iload 1 dL_law__2105 rfl ?_
    refine aw_if_ne 2122 dL_law__2107 (by decide) h (fun h => ?_) (fun h => ?_)
    · refine aw_env [(0, .ref b9), (1, .ref v1), (2, .ref v2), (3, .ref v3), (4, .int v4)] [2, 3, 4, 5, 6] rfl ?_
      exact L1_L_law__2122 hl0 N b9 L9 xs9 hsc n23 K23 hK23 v1 v2 v3 v4 T11 _ _ (by omega) (by omega) h
    · refine aw_aload_n 5 dL_law__2110 rfl rfl ?_
      refine aw_iconst 0 dL_law__2111 rfl ?_
      refine aw_lald dL_law__2112 h (fun x13 h => ?_)
      refine aw_iload 0 dL_law__2113 rfl ?_
      refine aw_i2l dL_law__2115 ?_
      refine aw_lcmp dL_law__2116 ?_
      refine aw_if_eq 2122 dL_law__2117 (by decide) h (fun h => ?_) (fun h => ?_)
      · refine aw_env [(0, .ref b9), (1, .ref v1), (2, .ref v2), (3, .ref v3), (4, .int v4)] [2, 3, 4, 5, 6] rfl ?_
        exact L1_L_law__2122 hl0 N b9 L9 xs9 hsc n23 K23 hK23 v1 v2 v3 v4 T11 _ _ (by omega) (by omega) h
      · refine aw_iconst 0 dL_law__2120 rfl ?_
        exact aw_lawret rfl rfl dL_law__2121 (by omega) (by omega) h
  · refine aw_iconst 0 dL_law__2103 rfl ?_
    exact aw_lawret rfl rfl dL_law__2104 (by omega) (by omega) h
theorem L1_L_law__2178 {g : AxG} {l : Launch} (hl0 : l.stackTraces = false) {S9 : AxS} (N : Nat) (b9 : Nat) (L9 : Nat) (xs9 : Nat → Int32) (hsc : g.2.2.2.2.2.1 = b9 ∧ g.2.2.2.2.2.2.1 = L9 ∧ g.2.2.2.2.2.2.2.1 = xs9) (n23 : Nat) (K23 : Nat → Nat → Nat → Int32 → AxS → Option (Int32 × AxS)) (hK23 : ∀ (v1 : Nat) (v2 : Nat) (v3 : Nat) (v4 : Int32) (S : AxS) (k9 n9 : Nat) (hk9 : k9 + 1 * (n23) ≤ 601024) (hn9 : n9 + 6 * (n23) ≤ 7293034), K23 v1 v2 v3 v4 S = some ((1, S9)) → AW g l room_1 mt_L_law_ (axLQ g) k9 n9 S 23 [(0, .ref b9), (1, .ref v1), (2, .ref v2), (3, .ref v3), (4, .int v4)] []) (v1 : Nat) (v2 : Nat) (v3 : Nat) (v4 : Int32) (S : AxS) (k9 n9 : Nat) (hk9 : k9 + 1 * (n23) ≤ 601024) (hn9 : n9 + 6 * (n23) ≤ 7293034) (h : F_L_law__2178 N L9 xs9 K23 v1 v2 v3 v4 S = some ((1, S9))) : AW g l room_1 mt_L_law_ (axLQ g) k9 n9 S 2178 [(0, .ref b9), (1, .ref v1), (2, .ref v2), (3, .ref v3), (4, .int v4)] [] := by
  unfold F_L_law__2178 at h
  refine aw_goto 2507 dL_law__2178 (by decide) ?_
  refine aw_env [(0, .ref b9), (1, .ref v1), (2, .ref v2), (3, .ref v3), (4, .int v4)] [0, 1, 2, 3, 4] rfl ?_
  exact L1_L_law__2507 hl0 N b9 L9 xs9 hsc n23 K23 hK23 v1 v2 v3 v4 S _ _ (by omega) (by omega) h
theorem L1_L_law__2125 {g : AxG} {l : Launch} (hl0 : l.stackTraces = false) {S9 : AxS} (N : Nat) (b9 : Nat) (L9 : Nat) (xs9 : Nat → Int32) (hsc : g.2.2.2.2.2.1 = b9 ∧ g.2.2.2.2.2.2.1 = L9 ∧ g.2.2.2.2.2.2.2.1 = xs9) (n23 : Nat) (K23 : Nat → Nat → Nat → Int32 → AxS → Option (Int32 × AxS)) (hK23 : ∀ (v1 : Nat) (v2 : Nat) (v3 : Nat) (v4 : Int32) (S : AxS) (k9 n9 : Nat) (hk9 : k9 + 1 * (n23) ≤ 601024) (hn9 : n9 + 6 * (n23) ≤ 7293034), K23 v1 v2 v3 v4 S = some ((1, S9)) → AW g l room_1 mt_L_law_ (axLQ g) k9 n9 S 23 [(0, .ref b9), (1, .ref v1), (2, .ref v2), (3, .ref v3), (4, .int v4)] []) (v1 : Nat) (v2 : Nat) (v3 : Nat) (v4 : Int32) (S : AxS) (k9 n9 : Nat) (hk9 : k9 + 1 * (n23 + 1) ≤ 601024) (hn9 : n9 + 6 * (n23 + 1) ≤ 7293034) (h : F_L_law__2125 N L9 xs9 K23 v1 v2 v3 v4 S = some ((1, S9))) : AW g l room_1 mt_L_law_ (axLQ g) k9 n9 S 2125 [(0, .ref b9), (1, .ref v1), (2, .ref v2), (3, .ref v3), (4, .int v4)] [] := by
  unfold F_L_law__2125 at h
  refine aw_aload_n 1 dL_law__2125 rfl rfl ?_
  refine aw_aload_n 0 dL_law__2126 rfl rfl ?_
  refine aw_iload 4 dL_law__2127 rfl ?_
  refine aw_iconst 1 dL_law__2129 rfl ?_
  refine aw_iadd dL_law__2130 ?_
  refine aw_sld hsc dL_law__2131 h (fun x1 h => ?_)
  refine aw_aload_n 3 dL_law__2132 rfl rfl ?_
  refine aw_doneI (rest := []) h (fun r9 S9 hF => aw_runSH (As := [.ref v1, .int x1, .ref v3]) (rest := []) (L1_L_level hl0 N hF) wd_1229 wd_1227 wd_1228 wd_86 pd_L_level.2 rfl (ax_rmL rfl rfl) (ax_hfLw (by omega) (by omega)) (Nat.le_of_ble_eq_true rfl) rfl dL_law__2133) (fun x3 T2 h => ?_)
  refine aw_istore [(5, .int x3), (0, .ref b9), (1, .ref v1), (2, .ref v2), (3, .ref v3), (4, .int v4)] dL_law__2136 rfl rfl ?_
  refine aw_aload_n 3 dL_law__2138 rfl rfl ?_
  refine aw_aload_n 1 dL_law__2139 rfl rfl ?_
  refine aw_iload 5 dL_law__2140 rfl ?_
  refine aw_iconst 1 dL_law__2142 rfl ?_
  refine aw_iadd dL_law__2143 ?_
  refine aw_sld hsc dL_law__2144 h (fun x4 h => ?_)
  obtain ⟨hL5, h⟩ := ax_is_spec h
  refine aw_doneI (rest := []) h (fun r9 S9 hF => aw_runV (As := [.int x4]) (rest := []) (L1_X10_level N hF) axc10 hL5 wd_1794 wd_1791 wd_1792 wd_1793 wd_97 pd_X10_level rfl (ax_rmL rfl rfl) (ax_hfLw (by omega) (by omega)) (Nat.le_of_ble_eq_true rfl) rfl dL_law__2145) (fun x7 T6 h => ?_)
  refine aw_istore [(6, .int x7), (5, .int x3), (0, .ref b9), (1, .ref v1), (2, .ref v2), (3, .ref v3), (4, .int v4)] dL_law__2148 rfl rfl ?_
  refine aw_aload_n 4 dL_law__2150 rfl rfl ?_
  obtain ⟨hL8, h⟩ := ax_is_spec h
  refine aw_doneI (rest := []) h (fun r9 S9 hF => aw_runV (As := []) (rest := []) (L1_X10_thrown N hF) axc10 hL8 wd_1437 wd_1434 wd_1435 wd_1436 wd_97 pd_X10_thrown rfl (ax_rmL rfl rfl) (ax_hfLw (by omega) (by omega)) (Nat.le_of_ble_eq_true rfl) rfl dL_law__2151) (fun x10 T9 h => ?_)
  refine aw_iload 1 dL_law__2154 rfl ?_
  refine aw_icmp_eq 2161 dL_law__2156 (by decide) h (fun h => ?_) (fun h => ?_)
  · refine aw_iload 1 dL_law__2161 rfl ?_
    refine aw_if_ne 2178 dL_law__2163 (by decide) h (fun h => ?_) (fun h => ?_)
    · refine aw_env [(0, .ref b9), (1, .ref v1), (2, .ref v2), (3, .ref v3), (4, .int v4)] [2, 3, 4, 5, 6] rfl ?_
      exact L1_L_law__2178 hl0 N b9 L9 xs9 hsc n23 K23 hK23 v1 v2 v3 v4 T9 _ _ (by omega) (by omega) h
    · refine aw_aload_n 5 dL_law__2166 rfl rfl ?_
      refine aw_iconst 0 dL_law__2167 rfl ?_
      refine aw_lald dL_law__2168 h (fun x11 h => ?_)
      refine aw_iload 0 dL_law__2169 rfl ?_
      refine aw_i2l dL_law__2171 ?_
      refine aw_lcmp dL_law__2172 ?_
      refine aw_if_eq 2178 dL_law__2173 (by decide) h (fun h => ?_) (fun h => ?_)
      · refine aw_env [(0, .ref b9), (1, .ref v1), (2, .ref v2), (3, .ref v3), (4, .int v4)] [2, 3, 4, 5, 6] rfl ?_
        exact L1_L_law__2178 hl0 N b9 L9 xs9 hsc n23 K23 hK23 v1 v2 v3 v4 T9 _ _ (by omega) (by omega) h
      · refine aw_iconst 0 dL_law__2176 rfl ?_
        exact aw_lawret rfl rfl dL_law__2177 (by omega) (by omega) h
  · refine aw_iconst 0 dL_law__2159 rfl ?_
    exact aw_lawret rfl rfl dL_law__2160 (by omega) (by omega) h
theorem L1_L_law__2296 {g : AxG} {l : Launch} (hl0 : l.stackTraces = false) {S9 : AxS} (N : Nat) (b9 : Nat) (L9 : Nat) (xs9 : Nat → Int32) (hsc : g.2.2.2.2.2.1 = b9 ∧ g.2.2.2.2.2.2.1 = L9 ∧ g.2.2.2.2.2.2.2.1 = xs9) (n23 : Nat) (K23 : Nat → Nat → Nat → Int32 → AxS → Option (Int32 × AxS)) (hK23 : ∀ (v1 : Nat) (v2 : Nat) (v3 : Nat) (v4 : Int32) (S : AxS) (k9 n9 : Nat) (hk9 : k9 + 1 * (n23) ≤ 601024) (hn9 : n9 + 6 * (n23) ≤ 7293034), K23 v1 v2 v3 v4 S = some ((1, S9)) → AW g l room_1 mt_L_law_ (axLQ g) k9 n9 S 23 [(0, .ref b9), (1, .ref v1), (2, .ref v2), (3, .ref v3), (4, .int v4)] []) (v1 : Nat) (v2 : Nat) (v3 : Nat) (v4 : Int32) (S : AxS) (k9 n9 : Nat) (hk9 : k9 + 1 * (n23) ≤ 601024) (hn9 : n9 + 6 * (n23) ≤ 7293034) (h : F_L_law__2296 N L9 xs9 K23 v1 v2 v3 v4 S = some ((1, S9))) : AW g l room_1 mt_L_law_ (axLQ g) k9 n9 S 2296 [(0, .ref b9), (1, .ref v1), (2, .ref v2), (3, .ref v3), (4, .int v4)] [] := by
  unfold F_L_law__2296 at h
  refine aw_goto 2507 dL_law__2296 (by decide) ?_
  refine aw_env [(0, .ref b9), (1, .ref v1), (2, .ref v2), (3, .ref v3), (4, .int v4)] [0, 1, 2, 3, 4] rfl ?_
  exact L1_L_law__2507 hl0 N b9 L9 xs9 hsc n23 K23 hK23 v1 v2 v3 v4 S _ _ (by omega) (by omega) h
theorem L1_L_law__2181 {g : AxG} {l : Launch} (hl0 : l.stackTraces = false) {S9 : AxS} (N : Nat) (b9 : Nat) (L9 : Nat) (xs9 : Nat → Int32) (hsc : g.2.2.2.2.2.1 = b9 ∧ g.2.2.2.2.2.2.1 = L9 ∧ g.2.2.2.2.2.2.2.1 = xs9) (n23 : Nat) (K23 : Nat → Nat → Nat → Int32 → AxS → Option (Int32 × AxS)) (hK23 : ∀ (v1 : Nat) (v2 : Nat) (v3 : Nat) (v4 : Int32) (S : AxS) (k9 n9 : Nat) (hk9 : k9 + 1 * (n23) ≤ 601024) (hn9 : n9 + 6 * (n23) ≤ 7293034), K23 v1 v2 v3 v4 S = some ((1, S9)) → AW g l room_1 mt_L_law_ (axLQ g) k9 n9 S 23 [(0, .ref b9), (1, .ref v1), (2, .ref v2), (3, .ref v3), (4, .int v4)] []) (v1 : Nat) (v2 : Nat) (v3 : Nat) (v4 : Int32) (S : AxS) (k9 n9 : Nat) (hk9 : k9 + 1 * (n23 + 1) ≤ 601024) (hn9 : n9 + 6 * (n23 + 1) ≤ 7293034) (h : F_L_law__2181 N L9 xs9 K23 v1 v2 v3 v4 S = some ((1, S9))) : AW g l room_1 mt_L_law_ (axLQ g) k9 n9 S 2181 [(0, .ref b9), (1, .ref v1), (2, .ref v2), (3, .ref v3), (4, .int v4)] [] := by
  unfold F_L_law__2181 at h
  refine aw_aload_n 1 dL_law__2181 rfl rfl ?_
  refine aw_aload_n 0 dL_law__2182 rfl rfl ?_
  refine aw_iload 4 dL_law__2183 rfl ?_
  refine aw_iconst 1 dL_law__2185 rfl ?_
  refine aw_iadd dL_law__2186 ?_
  refine aw_sld hsc dL_law__2187 h (fun x1 h => ?_)
  refine aw_aload_n 0 dL_law__2188 rfl rfl ?_
  refine aw_iload 4 dL_law__2189 rfl ?_
  refine aw_iconst 2 dL_law__2191 rfl ?_
  refine aw_iadd dL_law__2192 ?_
  refine aw_sld hsc dL_law__2193 h (fun x2 h => ?_)
  refine aw_aload_n 0 dL_law__2194 rfl rfl ?_
  refine aw_iload 4 dL_law__2195 rfl ?_
  refine aw_iconst 3 dL_law__2197 rfl ?_
  refine aw_iadd dL_law__2198 ?_
  refine aw_sld hsc dL_law__2199 h (fun x3 h => ?_)
  refine aw_aload_n 0 dL_law__2200 rfl rfl ?_
  refine aw_iload 4 dL_law__2201 rfl ?_
  refine aw_iconst 4 dL_law__2203 rfl ?_
  refine aw_iadd dL_law__2204 ?_
  refine aw_sld hsc dL_law__2205 h (fun x4 h => ?_)
  refine aw_aload_n 0 dL_law__2206 rfl rfl ?_
  refine aw_iload 4 dL_law__2207 rfl ?_
  refine aw_iconst 5 dL_law__2209 rfl ?_
  refine aw_iadd dL_law__2210 ?_
  refine aw_sld hsc dL_law__2211 h (fun x5 h => ?_)
  refine aw_aload_n 0 dL_law__2212 rfl rfl ?_
  refine aw_iload 4 dL_law__2213 rfl ?_
  refine aw_bipush 6 dL_law__2215 (by decide) ?_
  refine aw_iadd dL_law__2217 ?_
  refine aw_sld hsc dL_law__2218 h (fun x6 h => ?_)
  refine aw_aload_n 3 dL_law__2219 rfl rfl ?_
  refine aw_doneI (rest := []) h (fun r9 S9 hF => aw_runSH (As := [.ref v1, .int x1, .int x2, .int x3, .int x4, .int x5, .int x6, .ref v3]) (rest := []) (L1_L_years hl0 N hF) wd_1236 wd_1234 wd_1235 wd_86 pd_L_years.2 rfl (ax_rmL rfl rfl) (ax_hfLw (by omega) (by omega)) (Nat.le_of_ble_eq_true rfl) rfl dL_law__2220) (fun x8 T7 h => ?_)
  refine aw_istore [(5, .int x8), (0, .ref b9), (1, .ref v1), (2, .ref v2), (3, .ref v3), (4, .int v4)] dL_law__2223 rfl rfl ?_
  refine aw_aload_n 3 dL_law__2225 rfl rfl ?_
  refine aw_aload_n 1 dL_law__2226 rfl rfl ?_
  refine aw_iload 5 dL_law__2227 rfl ?_
  refine aw_iconst 1 dL_law__2229 rfl ?_
  refine aw_iadd dL_law__2230 ?_
  refine aw_sld hsc dL_law__2231 h (fun x9 h => ?_)
  refine aw_aload_n 1 dL_law__2232 rfl rfl ?_
  refine aw_iload 5 dL_law__2233 rfl ?_
  refine aw_iconst 2 dL_law__2235 rfl ?_
  refine aw_iadd dL_law__2236 ?_
  refine aw_sld hsc dL_law__2237 h (fun x10 h => ?_)
  refine aw_aload_n 1 dL_law__2238 rfl rfl ?_
  refine aw_iload 5 dL_law__2239 rfl ?_
  refine aw_iconst 3 dL_law__2241 rfl ?_
  refine aw_iadd dL_law__2242 ?_
  refine aw_sld hsc dL_law__2243 h (fun x11 h => ?_)
  refine aw_aload_n 1 dL_law__2244 rfl rfl ?_
  refine aw_iload 5 dL_law__2245 rfl ?_
  refine aw_iconst 4 dL_law__2247 rfl ?_
  refine aw_iadd dL_law__2248 ?_
  refine aw_sld hsc dL_law__2249 h (fun x12 h => ?_)
  refine aw_aload_n 1 dL_law__2250 rfl rfl ?_
  refine aw_iload 5 dL_law__2251 rfl ?_
  refine aw_iconst 5 dL_law__2253 rfl ?_
  refine aw_iadd dL_law__2254 ?_
  refine aw_sld hsc dL_law__2255 h (fun x13 h => ?_)
  refine aw_aload_n 1 dL_law__2256 rfl rfl ?_
  refine aw_iload 5 dL_law__2257 rfl ?_
  refine aw_bipush 6 dL_law__2259 (by decide) ?_
  refine aw_iadd dL_law__2261 ?_
  refine aw_sld hsc dL_law__2262 h (fun x14 h => ?_)
  obtain ⟨hL15, h⟩ := ax_is_spec h
  refine aw_doneI (rest := []) h (fun r9 S9 hF => aw_runV (As := [.int x9, .int x10, .int x11, .int x12, .int x13, .int x14]) (rest := []) (L1_X10_years N hF) axc10 hL15 wd_1798 wd_1795 wd_1796 wd_1797 wd_97 pd_X10_years rfl (ax_rmL rfl rfl) (ax_hfLw (by omega) (by omega)) (Nat.le_of_ble_eq_true rfl) rfl dL_law__2263) (fun x17 T16 h => ?_)
  refine aw_istore [(6, .int x17), (5, .int x8), (0, .ref b9), (1, .ref v1), (2, .ref v2), (3, .ref v3), (4, .int v4)] dL_law__2266 rfl rfl ?_
  refine aw_aload_n 4 dL_law__2268 rfl rfl ?_
  obtain ⟨hL18, h⟩ := ax_is_spec h
  refine aw_doneI (rest := []) h (fun r9 S9 hF => aw_runV (As := []) (rest := []) (L1_X10_thrown N hF) axc10 hL18 wd_1437 wd_1434 wd_1435 wd_1436 wd_97 pd_X10_thrown rfl (ax_rmL rfl rfl) (ax_hfLw (by omega) (by omega)) (Nat.le_of_ble_eq_true rfl) rfl dL_law__2269) (fun x20 T19 h => ?_)
  refine aw_iload 1 dL_law__2272 rfl ?_
  refine aw_icmp_eq 2279 dL_law__2274 (by decide) h (fun h => ?_) (fun h => ?_)
  · refine aw_iload 1 dL_law__2279 rfl ?_
    refine aw_if_ne 2296 dL_law__2281 (by decide) h (fun h => ?_) (fun h => ?_)
    · refine aw_env [(0, .ref b9), (1, .ref v1), (2, .ref v2), (3, .ref v3), (4, .int v4)] [2, 3, 4, 5, 6] rfl ?_
      exact L1_L_law__2296 hl0 N b9 L9 xs9 hsc n23 K23 hK23 v1 v2 v3 v4 T19 _ _ (by omega) (by omega) h
    · refine aw_aload_n 5 dL_law__2284 rfl rfl ?_
      refine aw_iconst 0 dL_law__2285 rfl ?_
      refine aw_lald dL_law__2286 h (fun x21 h => ?_)
      refine aw_iload 0 dL_law__2287 rfl ?_
      refine aw_i2l dL_law__2289 ?_
      refine aw_lcmp dL_law__2290 ?_
      refine aw_if_eq 2296 dL_law__2291 (by decide) h (fun h => ?_) (fun h => ?_)
      · refine aw_env [(0, .ref b9), (1, .ref v1), (2, .ref v2), (3, .ref v3), (4, .int v4)] [2, 3, 4, 5, 6] rfl ?_
        exact L1_L_law__2296 hl0 N b9 L9 xs9 hsc n23 K23 hK23 v1 v2 v3 v4 T19 _ _ (by omega) (by omega) h
      · refine aw_iconst 0 dL_law__2294 rfl ?_
        exact aw_lawret rfl rfl dL_law__2295 (by omega) (by omega) h
  · refine aw_iconst 0 dL_law__2277 rfl ?_
    exact aw_lawret rfl rfl dL_law__2278 (by omega) (by omega) h
theorem L1_L_law__2428 {g : AxG} {l : Launch} (hl0 : l.stackTraces = false) {S9 : AxS} (N : Nat) (b9 : Nat) (L9 : Nat) (xs9 : Nat → Int32) (hsc : g.2.2.2.2.2.1 = b9 ∧ g.2.2.2.2.2.2.1 = L9 ∧ g.2.2.2.2.2.2.2.1 = xs9) (n23 : Nat) (K23 : Nat → Nat → Nat → Int32 → AxS → Option (Int32 × AxS)) (hK23 : ∀ (v1 : Nat) (v2 : Nat) (v3 : Nat) (v4 : Int32) (S : AxS) (k9 n9 : Nat) (hk9 : k9 + 1 * (n23) ≤ 601024) (hn9 : n9 + 6 * (n23) ≤ 7293034), K23 v1 v2 v3 v4 S = some ((1, S9)) → AW g l room_1 mt_L_law_ (axLQ g) k9 n9 S 23 [(0, .ref b9), (1, .ref v1), (2, .ref v2), (3, .ref v3), (4, .int v4)] []) (v1 : Nat) (v2 : Nat) (v3 : Nat) (v4 : Int32) (S : AxS) (k9 n9 : Nat) (hk9 : k9 + 1 * (n23) ≤ 601024) (hn9 : n9 + 6 * (n23) ≤ 7293034) (h : F_L_law__2428 N L9 xs9 K23 v1 v2 v3 v4 S = some ((1, S9))) : AW g l room_1 mt_L_law_ (axLQ g) k9 n9 S 2428 [(0, .ref b9), (1, .ref v1), (2, .ref v2), (3, .ref v3), (4, .int v4)] [] := by
  unfold F_L_law__2428 at h
  refine aw_goto 2507 dL_law__2428 (by decide) ?_
  refine aw_env [(0, .ref b9), (1, .ref v1), (2, .ref v2), (3, .ref v3), (4, .int v4)] [0, 1, 2, 3, 4] rfl ?_
  exact L1_L_law__2507 hl0 N b9 L9 xs9 hsc n23 K23 hK23 v1 v2 v3 v4 S _ _ (by omega) (by omega) h
theorem L1_L_law__2299 {g : AxG} {l : Launch} (hl0 : l.stackTraces = false) {S9 : AxS} (N : Nat) (b9 : Nat) (L9 : Nat) (xs9 : Nat → Int32) (hsc : g.2.2.2.2.2.1 = b9 ∧ g.2.2.2.2.2.2.1 = L9 ∧ g.2.2.2.2.2.2.2.1 = xs9) (n23 : Nat) (K23 : Nat → Nat → Nat → Int32 → AxS → Option (Int32 × AxS)) (hK23 : ∀ (v1 : Nat) (v2 : Nat) (v3 : Nat) (v4 : Int32) (S : AxS) (k9 n9 : Nat) (hk9 : k9 + 1 * (n23) ≤ 601024) (hn9 : n9 + 6 * (n23) ≤ 7293034), K23 v1 v2 v3 v4 S = some ((1, S9)) → AW g l room_1 mt_L_law_ (axLQ g) k9 n9 S 23 [(0, .ref b9), (1, .ref v1), (2, .ref v2), (3, .ref v3), (4, .int v4)] []) (v1 : Nat) (v2 : Nat) (v3 : Nat) (v4 : Int32) (S : AxS) (k9 n9 : Nat) (hk9 : k9 + 1 * (n23 + 1) ≤ 601024) (hn9 : n9 + 6 * (n23 + 1) ≤ 7293034) (h : F_L_law__2299 N L9 xs9 K23 v1 v2 v3 v4 S = some ((1, S9))) : AW g l room_1 mt_L_law_ (axLQ g) k9 n9 S 2299 [(0, .ref b9), (1, .ref v1), (2, .ref v2), (3, .ref v3), (4, .int v4)] [] := by
  unfold F_L_law__2299 at h
  refine aw_aload_n 1 dL_law__2299 rfl rfl ?_
  refine aw_aload_n 0 dL_law__2300 rfl rfl ?_
  refine aw_iload 4 dL_law__2301 rfl ?_
  refine aw_iconst 1 dL_law__2303 rfl ?_
  refine aw_iadd dL_law__2304 ?_
  refine aw_sld hsc dL_law__2305 h (fun x1 h => ?_)
  refine aw_aload_n 0 dL_law__2306 rfl rfl ?_
  refine aw_iload 4 dL_law__2307 rfl ?_
  refine aw_iconst 2 dL_law__2309 rfl ?_
  refine aw_iadd dL_law__2310 ?_
  refine aw_sld hsc dL_law__2311 h (fun x2 h => ?_)
  refine aw_aload_n 0 dL_law__2312 rfl rfl ?_
  refine aw_iload 4 dL_law__2313 rfl ?_
  refine aw_iconst 3 dL_law__2315 rfl ?_
  refine aw_iadd dL_law__2316 ?_
  refine aw_sld hsc dL_law__2317 h (fun x3 h => ?_)
  refine aw_aload_n 0 dL_law__2318 rfl rfl ?_
  refine aw_iload 4 dL_law__2319 rfl ?_
  refine aw_iconst 4 dL_law__2321 rfl ?_
  refine aw_iadd dL_law__2322 ?_
  refine aw_sld hsc dL_law__2323 h (fun x4 h => ?_)
  refine aw_aload_n 0 dL_law__2324 rfl rfl ?_
  refine aw_iload 4 dL_law__2325 rfl ?_
  refine aw_iconst 5 dL_law__2327 rfl ?_
  refine aw_iadd dL_law__2328 ?_
  refine aw_sld hsc dL_law__2329 h (fun x5 h => ?_)
  refine aw_aload_n 0 dL_law__2330 rfl rfl ?_
  refine aw_iload 4 dL_law__2331 rfl ?_
  refine aw_bipush 6 dL_law__2333 (by decide) ?_
  refine aw_iadd dL_law__2335 ?_
  refine aw_sld hsc dL_law__2336 h (fun x6 h => ?_)
  refine aw_aload_n 0 dL_law__2337 rfl rfl ?_
  refine aw_iload 4 dL_law__2338 rfl ?_
  refine aw_bipush 7 dL_law__2340 (by decide) ?_
  refine aw_iadd dL_law__2342 ?_
  refine aw_sld hsc dL_law__2343 h (fun x7 h => ?_)
  refine aw_aload_n 3 dL_law__2344 rfl rfl ?_
  refine aw_doneI (rest := []) h (fun r9 S9 hF => aw_runSH (As := [.ref v1, .int x1, .int x2, .int x3, .int x4, .int x5, .int x6, .int x7, .ref v3]) (rest := []) (L1_L_span hl0 N hF) wd_1258 wd_1256 wd_1257 wd_86 pd_L_span.2 rfl (ax_rmL rfl rfl) (ax_hfLw (by omega) (by omega)) (Nat.le_of_ble_eq_true rfl) rfl dL_law__2345) (fun x9 T8 h => ?_)
  refine aw_istore [(5, .int x9), (0, .ref b9), (1, .ref v1), (2, .ref v2), (3, .ref v3), (4, .int v4)] dL_law__2348 rfl rfl ?_
  refine aw_aload_n 3 dL_law__2350 rfl rfl ?_
  refine aw_aload_n 1 dL_law__2351 rfl rfl ?_
  refine aw_iload 5 dL_law__2352 rfl ?_
  refine aw_iconst 1 dL_law__2354 rfl ?_
  refine aw_iadd dL_law__2355 ?_
  refine aw_sld hsc dL_law__2356 h (fun x10 h => ?_)
  refine aw_aload_n 1 dL_law__2357 rfl rfl ?_
  refine aw_iload 5 dL_law__2358 rfl ?_
  refine aw_iconst 2 dL_law__2360 rfl ?_
  refine aw_iadd dL_law__2361 ?_
  refine aw_sld hsc dL_law__2362 h (fun x11 h => ?_)
  refine aw_aload_n 1 dL_law__2363 rfl rfl ?_
  refine aw_iload 5 dL_law__2364 rfl ?_
  refine aw_iconst 3 dL_law__2366 rfl ?_
  refine aw_iadd dL_law__2367 ?_
  refine aw_sld hsc dL_law__2368 h (fun x12 h => ?_)
  refine aw_aload_n 1 dL_law__2369 rfl rfl ?_
  refine aw_iload 5 dL_law__2370 rfl ?_
  refine aw_iconst 4 dL_law__2372 rfl ?_
  refine aw_iadd dL_law__2373 ?_
  refine aw_sld hsc dL_law__2374 h (fun x13 h => ?_)
  refine aw_aload_n 1 dL_law__2375 rfl rfl ?_
  refine aw_iload 5 dL_law__2376 rfl ?_
  refine aw_iconst 5 dL_law__2378 rfl ?_
  refine aw_iadd dL_law__2379 ?_
  refine aw_sld hsc dL_law__2380 h (fun x14 h => ?_)
  refine aw_aload_n 1 dL_law__2381 rfl rfl ?_
  refine aw_iload 5 dL_law__2382 rfl ?_
  refine aw_bipush 6 dL_law__2384 (by decide) ?_
  refine aw_iadd dL_law__2386 ?_
  refine aw_sld hsc dL_law__2387 h (fun x15 h => ?_)
  refine aw_aload_n 1 dL_law__2388 rfl rfl ?_
  refine aw_iload 5 dL_law__2389 rfl ?_
  refine aw_bipush 7 dL_law__2391 (by decide) ?_
  refine aw_iadd dL_law__2393 ?_
  refine aw_sld hsc dL_law__2394 h (fun x16 h => ?_)
  obtain ⟨hL17, h⟩ := ax_is_spec h
  refine aw_doneI (rest := []) h (fun r9 S9 hF => aw_runV (As := [.int x10, .int x11, .int x12, .int x13, .int x14, .int x15, .int x16]) (rest := []) (L1_X10_span N hF) axc10 hL17 wd_1814 wd_1811 wd_1812 wd_1813 wd_97 pd_X10_span rfl (ax_rmL rfl rfl) (ax_hfLw (by omega) (by omega)) (Nat.le_of_ble_eq_true rfl) rfl dL_law__2395) (fun x19 T18 h => ?_)
  refine aw_istore [(6, .int x19), (5, .int x9), (0, .ref b9), (1, .ref v1), (2, .ref v2), (3, .ref v3), (4, .int v4)] dL_law__2398 rfl rfl ?_
  refine aw_aload_n 4 dL_law__2400 rfl rfl ?_
  obtain ⟨hL20, h⟩ := ax_is_spec h
  refine aw_doneI (rest := []) h (fun r9 S9 hF => aw_runV (As := []) (rest := []) (L1_X10_thrown N hF) axc10 hL20 wd_1437 wd_1434 wd_1435 wd_1436 wd_97 pd_X10_thrown rfl (ax_rmL rfl rfl) (ax_hfLw (by omega) (by omega)) (Nat.le_of_ble_eq_true rfl) rfl dL_law__2401) (fun x22 T21 h => ?_)
  refine aw_iload 1 dL_law__2404 rfl ?_
  refine aw_icmp_eq 2411 dL_law__2406 (by decide) h (fun h => ?_) (fun h => ?_)
  · refine aw_iload 1 dL_law__2411 rfl ?_
    refine aw_if_ne 2428 dL_law__2413 (by decide) h (fun h => ?_) (fun h => ?_)
    · refine aw_env [(0, .ref b9), (1, .ref v1), (2, .ref v2), (3, .ref v3), (4, .int v4)] [2, 3, 4, 5, 6] rfl ?_
      exact L1_L_law__2428 hl0 N b9 L9 xs9 hsc n23 K23 hK23 v1 v2 v3 v4 T21 _ _ (by omega) (by omega) h
    · refine aw_aload_n 5 dL_law__2416 rfl rfl ?_
      refine aw_iconst 0 dL_law__2417 rfl ?_
      refine aw_lald dL_law__2418 h (fun x23 h => ?_)
      refine aw_iload 0 dL_law__2419 rfl ?_
      refine aw_i2l dL_law__2421 ?_
      refine aw_lcmp dL_law__2422 ?_
      refine aw_if_eq 2428 dL_law__2423 (by decide) h (fun h => ?_) (fun h => ?_)
      · refine aw_env [(0, .ref b9), (1, .ref v1), (2, .ref v2), (3, .ref v3), (4, .int v4)] [2, 3, 4, 5, 6] rfl ?_
        exact L1_L_law__2428 hl0 N b9 L9 xs9 hsc n23 K23 hK23 v1 v2 v3 v4 T21 _ _ (by omega) (by omega) h
      · refine aw_iconst 0 dL_law__2426 rfl ?_
        exact aw_lawret rfl rfl dL_law__2427 (by omega) (by omega) h
  · refine aw_iconst 0 dL_law__2409 rfl ?_
    exact aw_lawret rfl rfl dL_law__2410 (by omega) (by omega) h
theorem L1_L_law__2431 {g : AxG} {l : Launch} (hl0 : l.stackTraces = false) {S9 : AxS} (N : Nat) (b9 : Nat) (L9 : Nat) (xs9 : Nat → Int32) (hsc : g.2.2.2.2.2.1 = b9 ∧ g.2.2.2.2.2.2.1 = L9 ∧ g.2.2.2.2.2.2.2.1 = xs9) (n23 : Nat) (K23 : Nat → Nat → Nat → Int32 → AxS → Option (Int32 × AxS)) (hK23 : ∀ (v1 : Nat) (v2 : Nat) (v3 : Nat) (v4 : Int32) (S : AxS) (k9 n9 : Nat) (hk9 : k9 + 1 * (n23) ≤ 601024) (hn9 : n9 + 6 * (n23) ≤ 7293034), K23 v1 v2 v3 v4 S = some ((1, S9)) → AW g l room_1 mt_L_law_ (axLQ g) k9 n9 S 23 [(0, .ref b9), (1, .ref v1), (2, .ref v2), (3, .ref v3), (4, .int v4)] []) (v1 : Nat) (v2 : Nat) (v3 : Nat) (v4 : Int32) (S : AxS) (k9 n9 : Nat) (hk9 : k9 + 1 * (n23 + 1) ≤ 601024) (hn9 : n9 + 6 * (n23 + 1) ≤ 7293034) (h : F_L_law__2431 N L9 xs9 K23 v1 v2 v3 v4 S = some ((1, S9))) : AW g l room_1 mt_L_law_ (axLQ g) k9 n9 S 2431 [(0, .ref b9), (1, .ref v1), (2, .ref v2), (3, .ref v3), (4, .int v4)] [] := by
  unfold F_L_law__2431 at h
  refine aw_aload_n 1 dL_law__2431 rfl rfl ?_
  obtain ⟨hL1, h⟩ := ax_is_spec h
  refine aw_doneI (rest := []) h (fun r9 S9 hF => aw_runV (As := []) (rest := []) (L1_X9_image N hF) axc9 hL1 wd_569 wd_566 wd_567 wd_568 wd_87 pd_X9_image rfl (ax_rmL rfl rfl) (ax_hfLw (by omega) (by omega)) (Nat.le_of_ble_eq_true rfl) rfl dL_law__2432) (fun x3 T2 h => ?_)
  refine aw_aload_n 2 dL_law__2435 rfl rfl ?_
  obtain ⟨hL4, h⟩ := ax_is_spec h
  refine aw_doneI (rest := [.int x3]) h (fun r9 S9 hF => aw_runV (As := []) (rest := [.int x3]) (L1_X10_image N hF) axc10 hL4 wd_1818 wd_1815 wd_1816 wd_1817 wd_97 pd_X10_image rfl (ax_rmL rfl rfl) (ax_hfLw (by omega) (by omega)) (Nat.le_of_ble_eq_true rfl) rfl dL_law__2436) (fun x6 T5 h => ?_)
  refine aw_icmp_eq 2507 dL_law__2439 (by decide) h (fun h => ?_) (fun h => ?_)
  · refine aw_env [(0, .ref b9), (1, .ref v1), (2, .ref v2), (3, .ref v3), (4, .int v4)] [0, 1, 2, 3, 4] rfl ?_
    exact L1_L_law__2507 hl0 N b9 L9 xs9 hsc n23 K23 hK23 v1 v2 v3 v4 T5 _ _ (by omega) (by omega) h
  · refine aw_iconst 0 dL_law__2442 rfl ?_
    exact aw_lawret rfl rfl dL_law__2443 (by omega) (by omega) h
theorem L1_L_law__2444 {g : AxG} {l : Launch} (hl0 : l.stackTraces = false) {S9 : AxS} (N : Nat) (b9 : Nat) (L9 : Nat) (xs9 : Nat → Int32) (hsc : g.2.2.2.2.2.1 = b9 ∧ g.2.2.2.2.2.2.1 = L9 ∧ g.2.2.2.2.2.2.2.1 = xs9) (n23 : Nat) (K23 : Nat → Nat → Nat → Int32 → AxS → Option (Int32 × AxS)) (hK23 : ∀ (v1 : Nat) (v2 : Nat) (v3 : Nat) (v4 : Int32) (S : AxS) (k9 n9 : Nat) (hk9 : k9 + 1 * (n23) ≤ 601024) (hn9 : n9 + 6 * (n23) ≤ 7293034), K23 v1 v2 v3 v4 S = some ((1, S9)) → AW g l room_1 mt_L_law_ (axLQ g) k9 n9 S 23 [(0, .ref b9), (1, .ref v1), (2, .ref v2), (3, .ref v3), (4, .int v4)] []) (v1 : Nat) (v2 : Nat) (v3 : Nat) (v4 : Int32) (S : AxS) (k9 n9 : Nat) (hk9 : k9 + 1 * (n23 + 1) ≤ 601024) (hn9 : n9 + 6 * (n23 + 1) ≤ 7293034) (h : F_L_law__2444 N L9 xs9 K23 v1 v2 v3 v4 S = some ((1, S9))) : AW g l room_1 mt_L_law_ (axLQ g) k9 n9 S 2444 [(0, .ref b9), (1, .ref v1), (2, .ref v2), (3, .ref v3), (4, .int v4)] [] := by
  unfold F_L_law__2444 at h
  refine aw_aload_n 1 dL_law__2444 rfl rfl ?_
  obtain ⟨hL1, h⟩ := ax_is_spec h
  refine aw_doneI (rest := []) h (fun r9 S9 hF => aw_runV (As := []) (rest := []) (L1_X9_restore N hF) axc9 hL1 wd_582 wd_579 wd_580 wd_581 wd_87 pd_X9_restore rfl (ax_rmL rfl rfl) (ax_hfLw (by omega) (by omega)) (Nat.le_of_ble_eq_true rfl) rfl dL_law__2445) (fun x3 T2 h => ?_)
  refine aw_aload_n 2 dL_law__2448 rfl rfl ?_
  obtain ⟨hL4, h⟩ := ax_is_spec h
  refine aw_doneI (rest := [.int x3]) h (fun r9 S9 hF => aw_runV (As := []) (rest := [.int x3]) (L1_X10_restore N hF) axc10 hL4 wd_1830 wd_1827 wd_1828 wd_1829 wd_97 pd_X10_restore rfl (ax_rmL rfl rfl) (ax_hfLw (by omega) (by omega)) (Nat.le_of_ble_eq_true rfl) rfl dL_law__2449) (fun x6 T5 h => ?_)
  refine aw_icmp_eq 2507 dL_law__2452 (by decide) h (fun h => ?_) (fun h => ?_)
  · refine aw_env [(0, .ref b9), (1, .ref v1), (2, .ref v2), (3, .ref v3), (4, .int v4)] [0, 1, 2, 3, 4] rfl ?_
    exact L1_L_law__2507 hl0 N b9 L9 xs9 hsc n23 K23 hK23 v1 v2 v3 v4 T5 _ _ (by omega) (by omega) h
  · refine aw_iconst 0 dL_law__2455 rfl ?_
    exact aw_lawret rfl rfl dL_law__2456 (by omega) (by omega) h
theorem L1_L_law__2457 {g : AxG} {l : Launch} (hl0 : l.stackTraces = false) {S9 : AxS} (N : Nat) (b9 : Nat) (L9 : Nat) (xs9 : Nat → Int32) (hsc : g.2.2.2.2.2.1 = b9 ∧ g.2.2.2.2.2.2.1 = L9 ∧ g.2.2.2.2.2.2.2.1 = xs9) (n23 : Nat) (K23 : Nat → Nat → Nat → Int32 → AxS → Option (Int32 × AxS)) (hK23 : ∀ (v1 : Nat) (v2 : Nat) (v3 : Nat) (v4 : Int32) (S : AxS) (k9 n9 : Nat) (hk9 : k9 + 1 * (n23) ≤ 601024) (hn9 : n9 + 6 * (n23) ≤ 7293034), K23 v1 v2 v3 v4 S = some ((1, S9)) → AW g l room_1 mt_L_law_ (axLQ g) k9 n9 S 23 [(0, .ref b9), (1, .ref v1), (2, .ref v2), (3, .ref v3), (4, .int v4)] []) (v1 : Nat) (v2 : Nat) (v3 : Nat) (v4 : Int32) (S : AxS) (k9 n9 : Nat) (hk9 : k9 + 1 * (n23 + 1) ≤ 601024) (hn9 : n9 + 6 * (n23 + 1) ≤ 7293034) (h : F_L_law__2457 N L9 xs9 K23 v1 v2 v3 v4 S = some ((1, S9))) : AW g l room_1 mt_L_law_ (axLQ g) k9 n9 S 2457 [(0, .ref b9), (1, .ref v1), (2, .ref v2), (3, .ref v3), (4, .int v4)] [] := by
  unfold F_L_law__2457 at h
  refine aw_aload_n 1 dL_law__2457 rfl rfl ?_
  refine aw_aload_n 0 dL_law__2458 rfl rfl ?_
  refine aw_iload 4 dL_law__2459 rfl ?_
  refine aw_iconst 1 dL_law__2461 rfl ?_
  refine aw_iadd dL_law__2462 ?_
  refine aw_sld hsc dL_law__2463 h (fun x1 h => ?_)
  obtain ⟨hL2, h⟩ := ax_is_spec h
  refine aw_doneI (rest := []) h (fun r9 S9 hF => aw_runV (As := [.int x1]) (rest := []) (L1_X9_status N hF) axc9 hL2 wd_588 wd_585 wd_586 wd_587 wd_87 pd_X9_status rfl (ax_rmL rfl rfl) (ax_hfLw (by omega) (by omega)) (Nat.le_of_ble_eq_true rfl) rfl dL_law__2464) (fun x4 T3 h => ?_)
  refine aw_aload_n 2 dL_law__2467 rfl rfl ?_
  refine aw_aload_n 0 dL_law__2468 rfl rfl ?_
  refine aw_iload 4 dL_law__2469 rfl ?_
  refine aw_iconst 1 dL_law__2471 rfl ?_
  refine aw_iadd dL_law__2472 ?_
  refine aw_sld hsc dL_law__2473 h (fun x5 h => ?_)
  obtain ⟨hL6, h⟩ := ax_is_spec h
  refine aw_doneI (rest := [.int x4]) h (fun r9 S9 hF => aw_runV (As := [.int x5]) (rest := [.int x4]) (L1_X10_status N hF) axc10 hL6 wd_1834 wd_1831 wd_1832 wd_1833 wd_97 pd_X10_status rfl (ax_rmL rfl rfl) (ax_hfLw (by omega) (by omega)) (Nat.le_of_ble_eq_true rfl) rfl dL_law__2474) (fun x8 T7 h => ?_)
  refine aw_icmp_eq 2507 dL_law__2477 (by decide) h (fun h => ?_) (fun h => ?_)
  · refine aw_env [(0, .ref b9), (1, .ref v1), (2, .ref v2), (3, .ref v3), (4, .int v4)] [0, 1, 2, 3, 4] rfl ?_
    exact L1_L_law__2507 hl0 N b9 L9 xs9 hsc n23 K23 hK23 v1 v2 v3 v4 T7 _ _ (by omega) (by omega) h
  · refine aw_iconst 0 dL_law__2480 rfl ?_
    exact aw_lawret rfl rfl dL_law__2481 (by omega) (by omega) h
theorem L1_L_law__2482 {g : AxG} {l : Launch} (hl0 : l.stackTraces = false) {S9 : AxS} (N : Nat) (b9 : Nat) (L9 : Nat) (xs9 : Nat → Int32) (hsc : g.2.2.2.2.2.1 = b9 ∧ g.2.2.2.2.2.2.1 = L9 ∧ g.2.2.2.2.2.2.2.1 = xs9) (n23 : Nat) (K23 : Nat → Nat → Nat → Int32 → AxS → Option (Int32 × AxS)) (hK23 : ∀ (v1 : Nat) (v2 : Nat) (v3 : Nat) (v4 : Int32) (S : AxS) (k9 n9 : Nat) (hk9 : k9 + 1 * (n23) ≤ 601024) (hn9 : n9 + 6 * (n23) ≤ 7293034), K23 v1 v2 v3 v4 S = some ((1, S9)) → AW g l room_1 mt_L_law_ (axLQ g) k9 n9 S 23 [(0, .ref b9), (1, .ref v1), (2, .ref v2), (3, .ref v3), (4, .int v4)] []) (v1 : Nat) (v2 : Nat) (v3 : Nat) (v4 : Int32) (S : AxS) (k9 n9 : Nat) (hk9 : k9 + 1 * (n23 + 1) ≤ 601024) (hn9 : n9 + 6 * (n23 + 1) ≤ 7293034) (h : F_L_law__2482 N L9 xs9 K23 v1 v2 v3 v4 S = some ((1, S9))) : AW g l room_1 mt_L_law_ (axLQ g) k9 n9 S 2482 [(0, .ref b9), (1, .ref v1), (2, .ref v2), (3, .ref v3), (4, .int v4)] [] := by
  unfold F_L_law__2482 at h
  refine aw_aload_n 1 dL_law__2482 rfl rfl ?_
  refine aw_aload_n 0 dL_law__2483 rfl rfl ?_
  refine aw_iload 4 dL_law__2484 rfl ?_
  refine aw_iconst 1 dL_law__2486 rfl ?_
  refine aw_iadd dL_law__2487 ?_
  refine aw_sld hsc dL_law__2488 h (fun x1 h => ?_)
  obtain ⟨hL2, h⟩ := ax_is_spec h
  refine aw_doneI (rest := []) h (fun r9 S9 hF => aw_runV (As := [.int x1]) (rest := []) (L1_X9_kept N hF) axc9 hL2 wd_592 wd_589 wd_590 wd_591 wd_87 pd_X9_kept rfl (ax_rmL rfl rfl) (ax_hfLw (by omega) (by omega)) (Nat.le_of_ble_eq_true rfl) rfl dL_law__2489) (fun x4 T3 h => ?_)
  refine aw_aload_n 2 dL_law__2492 rfl rfl ?_
  refine aw_aload_n 0 dL_law__2493 rfl rfl ?_
  refine aw_iload 4 dL_law__2494 rfl ?_
  refine aw_iconst 1 dL_law__2496 rfl ?_
  refine aw_iadd dL_law__2497 ?_
  refine aw_sld hsc dL_law__2498 h (fun x5 h => ?_)
  obtain ⟨hL6, h⟩ := ax_is_spec h
  refine aw_doneI (rest := [.int x4]) h (fun r9 S9 hF => aw_runV (As := [.int x5]) (rest := [.int x4]) (L1_X10_kept N hF) axc10 hL6 wd_1838 wd_1835 wd_1836 wd_1837 wd_97 pd_X10_kept rfl (ax_rmL rfl rfl) (ax_hfLw (by omega) (by omega)) (Nat.le_of_ble_eq_true rfl) rfl dL_law__2499) (fun x8 T7 h => ?_)
  refine aw_icmp_eq 2507 dL_law__2502 (by decide) h (fun h => ?_) (fun h => ?_)
  · refine aw_env [(0, .ref b9), (1, .ref v1), (2, .ref v2), (3, .ref v3), (4, .int v4)] [0, 1, 2, 3, 4] rfl ?_
    exact L1_L_law__2507 hl0 N b9 L9 xs9 hsc n23 K23 hK23 v1 v2 v3 v4 T7 _ _ (by omega) (by omega) h
  · refine aw_iconst 0 dL_law__2505 rfl ?_
    exact aw_lawret rfl rfl dL_law__2506 (by omega) (by omega) h
