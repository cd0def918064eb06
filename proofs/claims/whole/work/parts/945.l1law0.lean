theorem L1_L_law__2507 {g : AxG} {l : Launch} (hl0 : l.stackTraces = false) {S9 : AxS} (N : Nat) (b9 : Nat) (L9 : Nat) (xs9 : Nat → Int32) (hsc : g.2.2.2.2.2.1 = b9 ∧ g.2.2.2.2.2.2.1 = L9 ∧ g.2.2.2.2.2.2.2.1 = xs9) (n23 : Nat) (K23 : Nat → Nat → Nat → Int32 → AxS → Option (Int32 × AxS)) (hK23 : ∀ (v1 : Nat) (v2 : Nat) (v3 : Nat) (v4 : Int32) (S : AxS) (k9 n9 : Nat) (hk9 : k9 + 1 * (n23) ≤ 601024) (hn9 : n9 + 6 * (n23) ≤ 7293034), K23 v1 v2 v3 v4 S = some ((1, S9)) → AW g l room_1 mt_L_law_ (axLQ g) k9 n9 S 23 [(0, .ref b9), (1, .ref v1), (2, .ref v2), (3, .ref v3), (4, .int v4)] []) (v1 : Nat) (v2 : Nat) (v3 : Nat) (v4 : Int32) (S : AxS) (k9 n9 : Nat) (hk9 : k9 + 1 * (n23) ≤ 601024) (hn9 : n9 + 6 * (n23) ≤ 7293034) (h : F_L_law__2507 N L9 xs9 K23 v1 v2 v3 v4 S = some ((1, S9))) : AW g l room_1 mt_L_law_ (axLQ g) k9 n9 S 2507 [(0, .ref b9), (1, .ref v1), (2, .ref v2), (3, .ref v3), (4, .int v4)] [] := by
  unfold F_L_law__2507 at h
  refine aw_iinc 4 [(4, .int (v4 + 8)), (0, .ref b9), (1, .ref v1), (2, .ref v2), (3, .ref v3)] (v4 + 8) dL_law__2507 rfl rfl rfl rfl ?_
  refine aw_goto 23 dL_law__2510 (by decide) ?_
  refine aw_env [(0, .ref b9), (1, .ref v1), (2, .ref v2), (3, .ref v3), (4, .int (v4 + 8))] [1, 2, 3, 4, 0] rfl ?_
  exact hK23 v1 v2 v3 (v4 + 8) S _ _ (by omega) (by omega) h
theorem L1_L_law__208 {g : AxG} {l : Launch} (hl0 : l.stackTraces = false) {S9 : AxS} (N : Nat) (b9 : Nat) (L9 : Nat) (xs9 : Nat → Int32) (hsc : g.2.2.2.2.2.1 = b9 ∧ g.2.2.2.2.2.2.1 = L9 ∧ g.2.2.2.2.2.2.2.1 = xs9) (n23 : Nat) (K23 : Nat → Nat → Nat → Int32 → AxS → Option (Int32 × AxS)) (hK23 : ∀ (v1 : Nat) (v2 : Nat) (v3 : Nat) (v4 : Int32) (S : AxS) (k9 n9 : Nat) (hk9 : k9 + 1 * (n23) ≤ 601024) (hn9 : n9 + 6 * (n23) ≤ 7293034), K23 v1 v2 v3 v4 S = some ((1, S9)) → AW g l room_1 mt_L_law_ (axLQ g) k9 n9 S 23 [(0, .ref b9), (1, .ref v1), (2, .ref v2), (3, .ref v3), (4, .int v4)] []) (v1 : Nat) (v2 : Nat) (v3 : Nat) (v4 : Int32) (S : AxS) (k9 n9 : Nat) (hk9 : k9 + 1 * (n23 + 1) ≤ 601024) (hn9 : n9 + 6 * (n23 + 1) ≤ 7293034) (h : F_L_law__208 N L9 xs9 K23 v1 v2 v3 v4 S = some ((1, S9))) : AW g l room_1 mt_L_law_ (axLQ g) k9 n9 S 208 [(0, .ref b9), (1, .ref v1), (2, .ref v2), (3, .ref v3), (4, .int v4)] [] := by
  unfold F_L_law__208 at h
  refine aw_aload_n 1 dL_law__208 rfl rfl ?_
  refine aw_aload_n 0 dL_law__209 rfl rfl ?_
  refine aw_iload 4 dL_law__210 rfl ?_
  refine aw_iconst 1 dL_law__212 rfl ?_
  refine aw_iadd dL_law__213 ?_
  refine aw_sld hsc dL_law__214 h (fun x1 h => ?_)
  refine aw_aload_n 0 dL_law__215 rfl rfl ?_
  refine aw_iload 4 dL_law__216 rfl ?_
  refine aw_iconst 2 dL_law__218 rfl ?_
  refine aw_iadd dL_law__219 ?_
  refine aw_sld hsc dL_law__220 h (fun x2 h => ?_)
  refine aw_aload_n 0 dL_law__221 rfl rfl ?_
  refine aw_iload 4 dL_law__222 rfl ?_
  refine aw_iconst 3 dL_law__224 rfl ?_
  refine aw_iadd dL_law__225 ?_
  refine aw_sld hsc dL_law__226 h (fun x3 h => ?_)
  refine aw_aload_n 0 dL_law__227 rfl rfl ?_
  refine aw_iload 4 dL_law__228 rfl ?_
  refine aw_iconst 4 dL_law__230 rfl ?_
  refine aw_iadd dL_law__231 ?_
  refine aw_sld hsc dL_law__232 h (fun x4 h => ?_)
  refine aw_aload_n 0 dL_law__233 rfl rfl ?_
  refine aw_iload 4 dL_law__234 rfl ?_
  refine aw_iconst 5 dL_law__236 rfl ?_
  refine aw_iadd dL_law__237 ?_
  refine aw_sld hsc dL_law__238 h (fun x5 h => ?_)
  obtain ⟨hL6, h⟩ := ax_is_spec h
  refine aw_doneI (rest := []) h (fun r9 S9 hF => aw_runV (As := [.int x1, .int x2, .int x3, .int x4, .int x5]) (rest := []) (L1_X9_feed N hF) axc9 hL6 wd_517 wd_514 wd_515 wd_516 wd_87 pd_X9_feed rfl (ax_rmL rfl rfl) (ax_hfLw (by omega) (by omega)) (Nat.le_of_ble_eq_true rfl) rfl dL_law__239) (fun x8 T7 h => ?_)
  refine aw_aload_n 2 dL_law__242 rfl rfl ?_
  refine aw_aload_n 0 dL_law__243 rfl rfl ?_
  refine aw_iload 4 dL_law__244 rfl ?_
  refine aw_iconst 1 dL_law__246 rfl ?_
  refine aw_iadd dL_law__247 ?_
  refine aw_sld hsc dL_law__248 h (fun x9 h => ?_)
  refine aw_aload_n 0 dL_law__249 rfl rfl ?_
  refine aw_iload 4 dL_law__250 rfl ?_
  refine aw_iconst 2 dL_law__252 rfl ?_
  refine aw_iadd dL_law__253 ?_
  refine aw_sld hsc dL_law__254 h (fun x10 h => ?_)
  refine aw_aload_n 0 dL_law__255 rfl rfl ?_
  refine aw_iload 4 dL_law__256 rfl ?_
  refine aw_iconst 3 dL_law__258 rfl ?_
  refine aw_iadd dL_law__259 ?_
  refine aw_sld hsc dL_law__260 h (fun x11 h => ?_)
  refine aw_aload_n 0 dL_law__261 rfl rfl ?_
  refine aw_iload 4 dL_law__262 rfl ?_
  refine aw_iconst 4 dL_law__264 rfl ?_
  refine aw_iadd dL_law__265 ?_
  refine aw_sld hsc dL_law__266 h (fun x12 h => ?_)
  refine aw_aload_n 0 dL_law__267 rfl rfl ?_
  refine aw_iload 4 dL_law__268 rfl ?_
  refine aw_iconst 5 dL_law__270 rfl ?_
  refine aw_iadd dL_law__271 ?_
  refine aw_sld hsc dL_law__272 h (fun x13 h => ?_)
  obtain ⟨hL14, h⟩ := ax_is_spec h
  refine aw_doneI (rest := [.int x8]) h (fun r9 S9 hF => aw_runV (As := [.int x9, .int x10, .int x11, .int x12, .int x13]) (rest := [.int x8]) (L1_X10_feed N hF) axc10 hL14 wd_1441 wd_1438 wd_1439 wd_1440 wd_97 pd_X10_feed rfl (ax_rmL rfl rfl) (ax_hfLw (by omega) (by omega)) (Nat.le_of_ble_eq_true rfl) rfl dL_law__273) (fun x16 T15 h => ?_)
  refine aw_icmp_eq 2507 dL_law__276 (by decide) h (fun h => ?_) (fun h => ?_)
  · refine aw_env [(0, .ref b9), (1, .ref v1), (2, .ref v2), (3, .ref v3), (4, .int v4)] [0, 1, 2, 3, 4] rfl ?_
    exact L1_L_law__2507 hl0 N b9 L9 xs9 hsc n23 K23 hK23 v1 v2 v3 v4 T15 _ _ (by omega) (by omega) h
  · refine aw_iconst 0 dL_law__279 rfl ?_
    exact aw_lawret rfl rfl dL_law__280 (by omega) (by omega) h
theorem L1_L_law__334 {g : AxG} {l : Launch} (hl0 : l.stackTraces = false) {S9 : AxS} (N : Nat) (b9 : Nat) (L9 : Nat) (xs9 : Nat → Int32) (hsc : g.2.2.2.2.2.1 = b9 ∧ g.2.2.2.2.2.2.1 = L9 ∧ g.2.2.2.2.2.2.2.1 = xs9) (n23 : Nat) (K23 : Nat → Nat → Nat → Int32 → AxS → Option (Int32 × AxS)) (hK23 : ∀ (v1 : Nat) (v2 : Nat) (v3 : Nat) (v4 : Int32) (S : AxS) (k9 n9 : Nat) (hk9 : k9 + 1 * (n23) ≤ 601024) (hn9 : n9 + 6 * (n23) ≤ 7293034), K23 v1 v2 v3 v4 S = some ((1, S9)) → AW g l room_1 mt_L_law_ (axLQ g) k9 n9 S 23 [(0, .ref b9), (1, .ref v1), (2, .ref v2), (3, .ref v3), (4, .int v4)] []) (v1 : Nat) (v2 : Nat) (v3 : Nat) (v4 : Int32) (S : AxS) (k9 n9 : Nat) (hk9 : k9 + 1 * (n23) ≤ 601024) (hn9 : n9 + 6 * (n23) ≤ 7293034) (h : F_L_law__334 N L9 xs9 K23 v1 v2 v3 v4 S = some ((1, S9))) : AW g l room_1 mt_L_law_ (axLQ g) k9 n9 S 334 [(0, .ref b9), (1, .ref v1), (2, .ref v2), (3, .ref v3), (4, .int v4)] [] := by
  unfold F_L_law__334 at h
  refine aw_goto 2507 dL_law__334 (by decide) ?_
  refine aw_env [(0, .ref b9), (1, .ref v1), (2, .ref v2), (3, .ref v3), (4, .int v4)] [0, 1, 2, 3, 4] rfl ?_
  exact L1_L_law__2507 hl0 N b9 L9 xs9 hsc n23 K23 hK23 v1 v2 v3 v4 S _ _ (by omega) (by omega) h
theorem L1_L_law__281 {g : AxG} {l : Launch} (hl0 : l.stackTraces = false) {S9 : AxS} (N : Nat) (b9 : Nat) (L9 : Nat) (xs9 : Nat → Int32) (hsc : g.2.2.2.2.2.1 = b9 ∧ g.2.2.2.2.2.2.1 = L9 ∧ g.2.2.2.2.2.2.2.1 = xs9) (n23 : Nat) (K23 : Nat → Nat → Nat → Int32 → AxS → Option (Int32 × AxS)) (hK23 : ∀ (v1 : Nat) (v2 : Nat) (v3 : Nat) (v4 : Int32) (S : AxS) (k9 n9 : Nat) (hk9 : k9 + 1 * (n23) ≤ 601024) (hn9 : n9 + 6 * (n23) ≤ 7293034), K23 v1 v2 v3 v4 S = some ((1, S9)) → AW g l room_1 mt_L_law_ (axLQ g) k9 n9 S 23 [(0, .ref b9), (1, .ref v1), (2, .ref v2), (3, .ref v3), (4, .int v4)] []) (v1 : Nat) (v2 : Nat) (v3 : Nat) (v4 : Int32) (S : AxS) (k9 n9 : Nat) (hk9 : k9 + 1 * (n23 + 1) ≤ 601024) (hn9 : n9 + 6 * (n23 + 1) ≤ 7293034) (h : F_L_law__281 N L9 xs9 K23 v1 v2 v3 v4 S = some ((1, S9))) : AW g l room_1 mt_L_law_ (axLQ g) k9 n9 S 281 [(0, .ref b9), (1, .ref v1), (2, .ref v2), (3, .ref v3), (4, .int v4)] [] := by
  unfold F_L_law__281 at h
  refine aw_aload_n 1 dL_law__281 rfl rfl ?_
  refine aw_aload_n 0 dL_law__282 rfl rfl ?_
  refine aw_iload 4 dL_law__283 rfl ?_
  refine aw_iconst 1 dL_law__285 rfl ?_
  refine aw_iadd dL_law__286 ?_
  refine aw_sld hsc dL_law__287 h (fun x1 h => ?_)
  refine aw_aload_n 3 dL_law__288 rfl rfl ?_
  refine aw_doneI (rest := []) h (fun r9 S9 hF => aw_runSH (As := [.ref v1, .int x1, .ref v3]) (rest := []) (L1_L_abbey hl0 N hF) wd_595 wd_593 wd_594 wd_86 pd_L_abbey.2 rfl (ax_rmL rfl rfl) (ax_hfLw (by omega) (by omega)) (Nat.le_of_ble_eq_true rfl) rfl dL_law__289) (fun x3 T2 h => ?_)
  refine aw_istore [(5, .int x3), (0, .ref b9), (1, .ref v1), (2, .ref v2), (3, .ref v3), (4, .int v4)] dL_law__292 rfl rfl ?_
  refine aw_aload_n 3 dL_law__294 rfl rfl ?_
  refine aw_aload_n 1 dL_law__295 rfl rfl ?_
  refine aw_iload 5 dL_law__296 rfl ?_
  refine aw_iconst 1 dL_law__298 rfl ?_
  refine aw_iadd dL_law__299 ?_
  refine aw_sld hsc dL_law__300 h (fun x4 h => ?_)
  obtain ⟨hL5, h⟩ := ax_is_spec h
  refine aw_doneI (rest := []) h (fun r9 S9 hF => aw_runV (As := [.int x4]) (rest := []) (L1_X10_abbey N hF) axc10 hL5 wd_1445 wd_1442 wd_1443 wd_1444 wd_97 pd_X10_abbey rfl (ax_rmL rfl rfl) (ax_hfLw (by omega) (by omega)) (Nat.le_of_ble_eq_true rfl) rfl dL_law__301) (fun x7 T6 h => ?_)
  refine aw_istore [(6, .int x7), (5, .int x3), (0, .ref b9), (1, .ref v1), (2, .ref v2), (3, .ref v3), (4, .int v4)] dL_law__304 rfl rfl ?_
  refine aw_aload_n 4 dL_law__306 rfl rfl ?_
  obtain ⟨hL8, h⟩ := ax_is_spec h
  refine aw_doneI (rest := []) h (fun r9 S9 hF => aw_runV (As := []) (rest := []) (L1_X10_thrown N hF) axc10 hL8 wd_1437 wd_1434 wd_1435 wd_1436 wd_97 pd_X10_thrown rfl (ax_rmL rfl rfl) (ax_hfLw (by omega) (by omega)) (Nat.le_of_ble_eq_true rfl) rfl dL_law__307) (fun x10 T9 h => ?_)
  refine aw_iload 1 dL_law__310 rfl ?_
  refine aw_icmp_eq 317 dL_law__312 (by decide) h (fun h => ?_) (fun h => ?_)
  · refine aw_iload 1 dL_law__317 rfl ?_
    refine aw_if_ne 334 dL_law__319 (by decide) h (fun h => ?_) (fun h => ?_)
    · refine aw_env [(0, .ref b9), (1, .ref v1), (2, .ref v2), (3, .ref v3), (4, .int v4)] [2, 3, 4, 5, 6] rfl ?_
      exact L1_L_law__334 hl0 N b9 L9 xs9 hsc n23 K23 hK23 v1 v2 v3 v4 T9 _ _ (by omega) (by omega) h
    · refine aw_aload_n 5 dL_law__322 rfl rfl ?_
      refine aw_iconst 0 dL_law__323 rfl ?_
      refine aw_lald dL_law__324 h (fun x11 h => ?_)
      refine aw_iload 0 dL_law__325 rfl ?_
      refine aw_i2l dL_law__327 ?_
      refine aw_lcmp dL_law__328 ?_
      refine aw_if_eq 334 dL_law__329 (by decide) h (fun h => ?_) (fun h => ?_)
      · refine aw_env [(0, .ref b9), (1, .ref v1), (2, .ref v2), (3, .ref v3), (4, .int v4)] [2, 3, 4, 5, 6] rfl ?_
        exact L1_L_law__334 hl0 N b9 L9 xs9 hsc n23 K23 hK23 v1 v2 v3 v4 T9 _ _ (by omega) (by omega) h
      · refine aw_iconst 0 dL_law__332 rfl ?_
        exact aw_lawret rfl rfl dL_law__333 (by omega) (by omega) h
  · refine aw_iconst 0 dL_law__315 rfl ?_
    exact aw_lawret rfl rfl dL_law__316 (by omega) (by omega) h
theorem L1_L_law__390 {g : AxG} {l : Launch} (hl0 : l.stackTraces = false) {S9 : AxS} (N : Nat) (b9 : Nat) (L9 : Nat) (xs9 : Nat → Int32) (hsc : g.2.2.2.2.2.1 = b9 ∧ g.2.2.2.2.2.2.1 = L9 ∧ g.2.2.2.2.2.2.2.1 = xs9) (n23 : Nat) (K23 : Nat → Nat → Nat → Int32 → AxS → Option (Int32 × AxS)) (hK23 : ∀ (v1 : Nat) (v2 : Nat) (v3 : Nat) (v4 : Int32) (S : AxS) (k9 n9 : Nat) (hk9 : k9 + 1 * (n23) ≤ 601024) (hn9 : n9 + 6 * (n23) ≤ 7293034), K23 v1 v2 v3 v4 S = some ((1, S9)) → AW g l room_1 mt_L_law_ (axLQ g) k9 n9 S 23 [(0, .ref b9), (1, .ref v1), (2, .ref v2), (3, .ref v3), (4, .int v4)] []) (v1 : Nat) (v2 : Nat) (v3 : Nat) (v4 : Int32) (S : AxS) (k9 n9 : Nat) (hk9 : k9 + 1 * (n23) ≤ 601024) (hn9 : n9 + 6 * (n23) ≤ 7293034) (h : F_L_law__390 N L9 xs9 K23 v1 v2 v3 v4 S = some ((1, S9))) : AW g l room_1 mt_L_law_ (axLQ g) k9 n9 S 390 [(0, .ref b9), (1, .ref v1), (2, .ref v2), (3, .ref v3), (4, .int v4)] [] := by
  unfold F_L_law__390 at h
  refine aw_goto 2507 dL_law__390 (by decide) ?_
  refine aw_env [(0, .ref b9), (1, .ref v1), (2, .ref v2), (3, .ref v3), (4, .int v4)] [0, 1, 2, 3, 4] rfl ?_
  exact L1_L_law__2507 hl0 N b9 L9 xs9 hsc n23 K23 hK23 v1 v2 v3 v4 S _ _ (by omega) (by omega) h
theorem L1_L_law__337 {g : AxG} {l : Launch} (hl0 : l.stackTraces = false) {S9 : AxS} (N : Nat) (b9 : Nat) (L9 : Nat) (xs9 : Nat → Int32) (hsc : g.2.2.2.2.2.1 = b9 ∧ g.2.2.2.2.2.2.1 = L9 ∧ g.2.2.2.2.2.2.2.1 = xs9) (n23 : Nat) (K23 : Nat → Nat → Nat → Int32 → AxS → Option (Int32 × AxS)) (hK23 : ∀ (v1 : Nat) (v2 : Nat) (v3 : Nat) (v4 : Int32) (S : AxS) (k9 n9 : Nat) (hk9 : k9 + 1 * (n23) ≤ 601024) (hn9 : n9 + 6 * (n23) ≤ 7293034), K23 v1 v2 v3 v4 S = some ((1, S9)) → AW g l room_1 mt_L_law_ (axLQ g) k9 n9 S 23 [(0, .ref b9), (1, .ref v1), (2, .ref v2), (3, .ref v3), (4, .int v4)] []) (v1 : Nat) (v2 : Nat) (v3 : Nat) (v4 : Int32) (S : AxS) (k9 n9 : Nat) (hk9 : k9 + 1 * (n23 + 1) ≤ 601024) (hn9 : n9 + 6 * (n23 + 1) ≤ 7293034) (h : F_L_law__337 N L9 xs9 K23 v1 v2 v3 v4 S = some ((1, S9))) : AW g l room_1 mt_L_law_ (axLQ g) k9 n9 S 337 [(0, .ref b9), (1, .ref v1), (2, .ref v2), (3, .ref v3), (4, .int v4)] [] := by
  unfold F_L_law__337 at h
  refine aw_aload_n 1 dL_law__337 rfl rfl ?_
  refine aw_aload_n 0 dL_law__338 rfl rfl ?_
  refine aw_iload 4 dL_law__339 rfl ?_
  refine aw_iconst 1 dL_law__341 rfl ?_
  refine aw_iadd dL_law__342 ?_
  refine aw_sld hsc dL_law__343 h (fun x1 h => ?_)
  refine aw_aload_n 3 dL_law__344 rfl rfl ?_
  refine aw_doneI (rest := []) h (fun r9 S9 hF => aw_runSH (As := [.ref v1, .int x1, .ref v3]) (rest := []) (L1_L_law hl0 N hF) wd_786 wd_784 wd_785 wd_86 pd_L_law.2 rfl (ax_rmL rfl rfl) (ax_hfLw (by omega) (by omega)) (Nat.le_of_ble_eq_true rfl) rfl dL_law__345) (fun x3 T2 h => ?_)
  refine aw_istore [(5, .int x3), (0, .ref b9), (1, .ref v1), (2, .ref v2), (3, .ref v3), (4, .int v4)] dL_law__348 rfl rfl ?_
  refine aw_aload_n 3 dL_law__350 rfl rfl ?_
  refine aw_aload_n 1 dL_law__351 rfl rfl ?_
  refine aw_iload 5 dL_law__352 rfl ?_
  refine aw_iconst 1 dL_law__354 rfl ?_
  refine aw_iadd dL_law__355 ?_
  refine aw_sld hsc dL_law__356 h (fun x4 h => ?_)
  obtain ⟨hL5, h⟩ := ax_is_spec h
  refine aw_doneI (rest := []) h (fun r9 S9 hF => aw_runV (As := [.int x4]) (rest := []) (L1_X10_law N hF) axc10 hL5 wd_1527 wd_1524 wd_1525 wd_1526 wd_97 pd_X10_law rfl (ax_rmL rfl rfl) (ax_hfLw (by omega) (by omega)) (Nat.le_of_ble_eq_true rfl) rfl dL_law__357) (fun x7 T6 h => ?_)
  refine aw_istore [(6, .int x7), (5, .int x3), (0, .ref b9), (1, .ref v1), (2, .ref v2), (3, .ref v3), (4, .int v4)] dL_law__360 rfl rfl ?_
  refine aw_aload_n 4 dL_law__362 rfl rfl ?_
  obtain ⟨hL8, h⟩ := ax_is_spec h
  refine aw_doneI (rest := []) h (fun r9 S9 hF => aw_runV (As := []) (rest := []) (L1_X10_thrown N hF) axc10 hL8 wd_1437 wd_1434 wd_1435 wd_1436 wd_97 pd_X10_thrown rfl (ax_rmL rfl rfl) (ax_hfLw (by omega) (by omega)) (Nat.le_of_ble_eq_true rfl) rfl dL_law__363) (fun x10 T9 h => ?_)
  refine aw_iload 1 dL_law__366 rfl ?_
  refine aw_icmp_eq 373 dL_law__368 (by decide) h (fun h => ?_) (fun h => ?_)
  · refine aw_iload 1 dL_law__373 rfl ?_
    refine aw_if_ne 390 dL_law__375 (by decide) h (fun h => ?_) (fun h => ?_)
    · refine aw_env [(0, .ref b9), (1, .ref v1), (2, .ref v2), (3, .ref v3), (4, .int v4)] [2, 3, 4, 5, 6] rfl ?_
      exact L1_L_law__390 hl0 N b9 L9 xs9 hsc n23 K23 hK23 v1 v2 v3 v4 T9 _ _ (by omega) (by omega) h
    · refine aw_aload_n 5 dL_law__378 rfl rfl ?_
      refine aw_iconst 0 dL_law__379 rfl ?_
      refine aw_lald dL_law__380 h (fun x11 h => ?_)
      refine aw_iload 0 dL_law__381 rfl ?_
      refine aw_i2l dL_law__383 ?_
      refine aw_lcmp dL_law__384 ?_
      refine aw_if_eq 390 dL_law__385 (by decide) h (fun h => ?_) (fun h => ?_)
      · refine aw_env [(0, .ref b9), (1, .ref v1), (2, .ref v2), (3, .ref v3), (4, .int v4)] [2, 3, 4, 5, 6] rfl ?_
        exact L1_L_law__390 hl0 N b9 L9 xs9 hsc n23 K23 hK23 v1 v2 v3 v4 T9 _ _ (by omega) (by omega) h
      · refine aw_iconst 0 dL_law__388 rfl ?_
        exact aw_lawret rfl rfl dL_law__389 (by omega) (by omega) h
  · refine aw_iconst 0 dL_law__371 rfl ?_
    exact aw_lawret rfl rfl dL_law__372 (by omega) (by omega) h
theorem L1_L_law__446 {g : AxG} {l : Launch} (hl0 : l.stackTraces = false) {S9 : AxS} (N : Nat) (b9 : Nat) (L9 : Nat) (xs9 : Nat → Int32) (hsc : g.2.2.2.2.2.1 = b9 ∧ g.2.2.2.2.2.2.1 = L9 ∧ g.2.2.2.2.2.2.2.1 = xs9) (n23 : Nat) (K23 : Nat → Nat → Nat → Int32 → AxS → Option (Int32 × AxS)) (hK23 : ∀ (v1 : Nat) (v2 : Nat) (v3 : Nat) (v4 : Int32) (S : AxS) (k9 n9 : Nat) (hk9 : k9 + 1 * (n23) ≤ 601024) (hn9 : n9 + 6 * (n23) ≤ 7293034), K23 v1 v2 v3 v4 S = some ((1, S9)) → AW g l room_1 mt_L_law_ (axLQ g) k9 n9 S 23 [(0, .ref b9), (1, .ref v1), (2, .ref v2), (3, .ref v3), (4, .int v4)] []) (v1 : Nat) (v2 : Nat) (v3 : Nat) (v4 : Int32) (S : AxS) (k9 n9 : Nat) (hk9 : k9 + 1 * (n23) ≤ 601024) (hn9 : n9 + 6 * (n23) ≤ 7293034) (h : F_L_law__446 N L9 xs9 K23 v1 v2 v3 v4 S = some ((1, S9))) : AW g l room_1 mt_L_law_ (axLQ g) k9 n9 S 446 [(0, .ref b9), (1, .ref v1), (2, .ref v2), (3, .ref v3), (4, .int v4)] [] := by
  unfold F_L_law__446 at h
  refine aw_goto 2507 dL_law__446 (by decide) ?_
  refine aw_env [(0, .ref b9), (1, .ref v1), (2, .ref v2), (3, .ref v3), (4, .int v4)] [0, 1, 2, 3, 4] rfl ?_
  exact L1_L_law__2507 hl0 N b9 L9 xs9 hsc n23 K23 hK23 v1 v2 v3 v4 S _ _ (by omega) (by omega) h
theorem L1_L_law__393 {g : AxG} {l : Launch} (hl0 : l.stackTraces = false) {S9 : AxS} (N : Nat) (b9 : Nat) (L9 : Nat) (xs9 : Nat → Int32) (hsc : g.2.2.2.2.2.1 = b9 ∧ g.2.2.2.2.2.2.1 = L9 ∧ g.2.2.2.2.2.2.2.1 = xs9) (n23 : Nat) (K23 : Nat → Nat → Nat → Int32 → AxS → Option (Int32 × AxS)) (hK23 : ∀ (v1 : Nat) (v2 : Nat) (v3 : Nat) (v4 : Int32) (S : AxS) (k9 n9 : Nat) (hk9 : k9 + 1 * (n23) ≤ 601024) (hn9 : n9 + 6 * (n23) ≤ 7293034), K23 v1 v2 v3 v4 S = some ((1, S9)) → AW g l room_1 mt_L_law_ (axLQ g) k9 n9 S 23 [(0, .ref b9), (1, .ref v1), (2, .ref v2), (3, .ref v3), (4, .int v4)] []) (v1 : Nat) (v2 : Nat) (v3 : Nat) (v4 : Int32) (S : AxS) (k9 n9 : Nat) (hk9 : k9 + 1 * (n23 + 1) ≤ 601024) (hn9 : n9 + 6 * (n23 + 1) ≤ 7293034) (h : F_L_law__393 N L9 xs9 K23 v1 v2 v3 v4 S = some ((1, S9))) : AW g l room_1 mt_L_law_ (axLQ g) k9 n9 S 393 [(0, .ref b9), (1, .ref v1), (2, .ref v2), (3, .ref v3), (4, .int v4)] [] := by
  unfold F_L_law__393 at h
  refine aw_aload_n 1 dL_law__393 rfl rfl ?_
  refine aw_aload_n 0 dL_law__394 rfl rfl ?_
  refine aw_iload 4 dL_law__395 rfl ?_
  refine aw_iconst 1 dL_law__397 rfl ?_
  refine aw_iadd dL_law__398 ?_
  refine aw_sld hsc dL_law__399 h (fun x1 h => ?_)
  refine aw_aload_n 3 dL_law__400 rfl rfl ?_
  refine aw_doneI (rest := []) h (fun r9 S9 hF => aw_runSH (As := [.ref v1, .int x1, .ref v3]) (rest := []) (L1_L_work hl0 N hF) wd_828 wd_826 wd_827 wd_86 pd_L_work.2 rfl (ax_rmL rfl rfl) (ax_hfLw (by omega) (by omega)) (Nat.le_of_ble_eq_true rfl) rfl dL_law__401) (fun x3 T2 h => ?_)
  refine aw_istore [(5, .int x3), (0, .ref b9), (1, .ref v1), (2, .ref v2), (3, .ref v3), (4, .int v4)] dL_law__404 rfl rfl ?_
  refine aw_aload_n 3 dL_law__406 rfl rfl ?_
  refine aw_aload_n 1 dL_law__407 rfl rfl ?_
  refine aw_iload 5 dL_law__408 rfl ?_
  refine aw_iconst 1 dL_law__410 rfl ?_
  refine aw_iadd dL_law__411 ?_
  refine aw_sld hsc dL_law__412 h (fun x4 h => ?_)
  obtain ⟨hL5, h⟩ := ax_is_spec h
  refine aw_doneI (rest := []) h (fun r9 S9 hF => aw_runV (As := [.int x4]) (rest := []) (L1_X10_work N hF) axc10 hL5 wd_1571 wd_1568 wd_1569 wd_1570 wd_97 pd_X10_work rfl (ax_rmL rfl rfl) (ax_hfLw (by omega) (by omega)) (Nat.le_of_ble_eq_true rfl) rfl dL_law__413) (fun x7 T6 h => ?_)
  refine aw_istore [(6, .int x7), (5, .int x3), (0, .ref b9), (1, .ref v1), (2, .ref v2), (3, .ref v3), (4, .int v4)] dL_law__416 rfl rfl ?_
  refine aw_aload_n 4 dL_law__418 rfl rfl ?_
  obtain ⟨hL8, h⟩ := ax_is_spec h
  refine aw_doneI (rest := []) h (fun r9 S9 hF => aw_runV (As := []) (rest := []) (L1_X10_thrown N hF) axc10 hL8 wd_1437 wd_1434 wd_1435 wd_1436 wd_97 pd_X10_thrown rfl (ax_rmL rfl rfl) (ax_hfLw (by omega) (by omega)) (Nat.le_of_ble_eq_true rfl) rfl dL_law__419) (fun x10 T9 h => ?_)
  refine aw_iload 1 dL_law__422 rfl ?_
  refine aw_icmp_eq 429 dL_law__424 (by decide) h (fun h => ?_) (fun h => ?_)
  · refine aw_iload 1 dL_law__429 rfl ?_
    refine aw_if_ne 446 dL_law__431 (by decide) h (fun h => ?_) (fun h => ?_)
    · refine aw_env [(0, .ref b9), (1, .ref v1), (2, .ref v2), (3, .ref v3), (4, .int v4)] [2, 3, 4, 5, 6] rfl ?_
      exact L1_L_law__446 hl0 N b9 L9 xs9 hsc n23 K23 hK23 v1 v2 v3 v4 T9 _ _ (by omega) (by omega) h
    · refine aw_aload_n 5 dL_law__434 rfl rfl ?_
      refine aw_iconst 0 dL_law__435 rfl ?_
      refine aw_lald dL_law__436 h (fun x11 h => ?_)
      refine aw_iload 0 dL_law__437 rfl ?_
      refine aw_i2l dL_law__439 ?_
      refine aw_lcmp dL_law__440 ?_
      refine aw_if_eq 446 dL_law__441 (by decide) h (fun h => ?_) (fun h => ?_)
      · refine aw_env [(0, .ref b9), (1, .ref v1), (2, .ref v2), (3, .ref v3), (4, .int v4)] [2, 3, 4, 5, 6] rfl ?_
        exact L1_L_law__446 hl0 N b9 L9 xs9 hsc n23 K23 hK23 v1 v2 v3 v4 T9 _ _ (by omega) (by omega) h
      · refine aw_iconst 0 dL_law__444 rfl ?_
        exact aw_lawret rfl rfl dL_law__445 (by omega) (by omega) h
  · refine aw_iconst 0 dL_law__427 rfl ?_
    exact aw_lawret rfl rfl dL_law__428 (by omega) (by omega) h
theorem L1_L_law__502 {g : AxG} {l : Launch} (hl0 : l.stackTraces = false) {S9 : AxS} (N : Nat) (b9 : Nat) (L9 : Nat) (xs9 : Nat → Int32) (hsc : g.2.2.2.2.2.1 = b9 ∧ g.2.2.2.2.2.2.1 = L9 ∧ g.2.2.2.2.2.2.2.1 = xs9) (n23 : Nat) (K23 : Nat → Nat → Nat → Int32 → AxS → Option (Int32 × AxS)) (hK23 : ∀ (v1 : Nat) (v2 : Nat) (v3 : Nat) (v4 : Int32) (S : AxS) (k9 n9 : Nat) (hk9 : k9 + 1 * (n23) ≤ 601024) (hn9 : n9 + 6 * (n23) ≤ 7293034), K23 v1 v2 v3 v4 S = some ((1, S9)) → AW g l room_1 mt_L_law_ (axLQ g) k9 n9 S 23 [(0, .ref b9), (1, .ref v1), (2, .ref v2), (3, .ref v3), (4, .int v4)] []) (v1 : Nat) (v2 : Nat) (v3 : Nat) (v4 : Int32) (S : AxS) (k9 n9 : Nat) (hk9 : k9 + 1 * (n23) ≤ 601024) (hn9 : n9 + 6 * (n23) ≤ 7293034) (h : F_L_law__502 N L9 xs9 K23 v1 v2 v3 v4 S = some ((1, S9))) : AW g l room_1 mt_L_law_ (axLQ g) k9 n9 S 502 [(0, .ref b9), (1, .ref v1), (2, .ref v2), (3, .ref v3), (4, .int v4)] [] := by
  unfold F_L_law__502 at h
  refine aw_goto 2507 dL_law__502 (by decide) ?_
  refine aw_env [(0, .ref b9), (1, .ref v1), (2, .ref v2), (3, .ref v3), (4, .int v4)] [0, 1, 2, 3, 4] rfl ?_
  exact L1_L_law__2507 hl0 N b9 L9 xs9 hsc n23 K23 hK23 v1 v2 v3 v4 S _ _ (by omega) (by omega) h
theorem L1_L_law__449 {g : AxG} {l : Launch} (hl0 : l.stackTraces = false) {S9 : AxS} (N : Nat) (b9 : Nat) (L9 : Nat) (xs9 : Nat → Int32) (hsc : g.2.2.2.2.2.1 = b9 ∧ g.2.2.2.2.2.2.1 = L9 ∧ g.2.2.2.2.2.2.2.1 = xs9) (n23 : Nat) (K23 : Nat → Nat → Nat → Int32 → AxS → Option (Int32 × AxS)) (hK23 : ∀ (v1 : Nat) (v2 : Nat) (v3 : Nat) (v4 : Int32) (S : AxS) (k9 n9 : Nat) (hk9 : k9 + 1 * (n23) ≤ 601024) (hn9 : n9 + 6 * (n23) ≤ 7293034), K23 v1 v2 v3 v4 S = some ((1, S9)) → AW g l room_1 mt_L_law_ (axLQ g) k9 n9 S 23 [(0, .ref b9), (1, .ref v1), (2, .ref v2), (3, .ref v3), (4, .int v4)] []) (v1 : Nat) (v2 : Nat) (v3 : Nat) (v4 : Int32) (S : AxS) (k9 n9 : Nat) (hk9 : k9 + 1 * (n23 + 1) ≤ 601024) (hn9 : n9 + 6 * (n23 + 1) ≤ 7293034) (h : F_L_law__449 N L9 xs9 K23 v1 v2 v3 v4 S = some ((1, S9))) : AW g l room_1 mt_L_law_ (axLQ g) k9 n9 S 449 [(0, .ref b9), (1, .ref v1), (2, .ref v2), (3, .ref v3), (4, .int v4)] [] := by
  unfold F_L_law__449 at h
  refine aw_aload_n 1 dL_law__449 rfl rfl ?_
  refine aw_aload_n 0 dL_law__450 rfl rfl ?_
  refine aw_iload 4 dL_law__451 rfl ?_
  refine aw_iconst 1 dL_law__453 rfl ?_
  refine aw_iadd dL_law__454 ?_
  refine aw_sld hsc dL_law__455 h (fun x1 h => ?_)
  refine aw_aload_n 3 dL_law__456 rfl rfl ?_
  refine aw_doneI (rest := []) h (fun r9 S9 hF => aw_runSH (As := [.ref v1, .int x1, .ref v3]) (rest := []) (L1_L_book hl0 N hF) wd_930 wd_928 wd_929 wd_86 pd_L_book.2 rfl (ax_rmL rfl rfl) (ax_hfLw (by omega) (by omega)) (Nat.le_of_ble_eq_true rfl) rfl dL_law__457) (fun x3 T2 h => ?_)
  refine aw_istore [(5, .int x3), (0, .ref b9), (1, .ref v1), (2, .ref v2), (3, .ref v3), (4, .int v4)] dL_law__460 rfl rfl ?_
  refine aw_aload_n 3 dL_law__462 rfl rfl ?_
  refine aw_aload_n 1 dL_law__463 rfl rfl ?_
  refine aw_iload 5 dL_law__464 rfl ?_
  refine aw_iconst 1 dL_law__466 rfl ?_
  refine aw_iadd dL_law__467 ?_
  refine aw_sld hsc dL_law__468 h (fun x4 h => ?_)
  obtain ⟨hL5, h⟩ := ax_is_spec h
  refine aw_doneI (rest := []) h (fun r9 S9 hF => aw_runV (As := [.int x4]) (rest := []) (L1_X10_book N hF) axc10 hL5 wd_1563 wd_1560 wd_1561 wd_1562 wd_97 pd_X10_book rfl (ax_rmL rfl rfl) (ax_hfLw (by omega) (by omega)) (Nat.le_of_ble_eq_true rfl) rfl dL_law__469) (fun x7 T6 h => ?_)
  refine aw_istore [(6, .int x7), (5, .int x3), (0, .ref b9), (1, .ref v1), (2, .ref v2), (3, .ref v3), (4, .int v4)] dL_law__472 rfl rfl ?_
  refine aw_aload_n 4 dL_law__474 rfl rfl ?_
  obtain ⟨hL8, h⟩ := ax_is_spec h
  refine aw_doneI (rest := []) h (fun r9 S9 hF => aw_runV (As := []) (rest := []) (L1_X10_thrown N hF) axc10 hL8 wd_1437 wd_1434 wd_1435 wd_1436 wd_97 pd_X10_thrown rfl (ax_rmL rfl rfl) (ax_hfLw (by omega) (by omega)) (Nat.le_of_ble_eq_true rfl) rfl dL_law__475) (fun x10 T9 h => ?_)
  refine aw_iload 1 dL_law__478 rfl ?_
  refine aw_icmp_eq 485 dL_law__480 (by decide) h (fun h => ?_) (fun h => ?_)
  · refine aw_iload 1 dL_law__485 rfl ?_
    refine aw_if_ne 502 dL_law__487 (by decide) h (fun h => ?_) (fun h => ?_)
    · refine aw_env [(0, .ref b9), (1, .ref v1), (2, .ref v2), (3, .ref v3), (4, .int v4)] [2, 3, 4, 5, 6] rfl ?_
      exact L1_L_law__502 hl0 N b9 L9 xs9 hsc n23 K23 hK23 v1 v2 v3 v4 T9 _ _ (by omega) (by omega) h
    · refine aw_aload_n 5 dL_law__490 rfl rfl ?_
      refine aw_iconst 0 dL_law__491 rfl ?_
      refine aw_lald dL_law__492 h (fun x11 h => ?_)
      refine aw_iload 0 dL_law__493 rfl ?_
      refine aw_i2l dL_law__495 ?_
      refine aw_lcmp dL_law__496 ?_
      refine aw_if_eq 502 dL_law__497 (by decide) h (fun h => ?_) (fun h => ?_)
      · refine aw_env [(0, .ref b9), (1, .ref v1), (2, .ref v2), (3, .ref v3), (4, .int v4)] [2, 3, 4, 5, 6] rfl ?_
        exact L1_L_law__502 hl0 N b9 L9 xs9 hsc n23 K23 hK23 v1 v2 v3 v4 T9 _ _ (by omega) (by omega) h
      · refine aw_iconst 0 dL_law__500 rfl ?_
        exact aw_lawret rfl rfl dL_law__501 (by omega) (by omega) h
  · refine aw_iconst 0 dL_law__483 rfl ?_
    exact aw_lawret rfl rfl dL_law__484 (by omega) (by omega) h
theorem L1_L_law__505 {g : AxG} {l : Launch} (hl0 : l.stackTraces = false) {S9 : AxS} (N : Nat) (b9 : Nat) (L9 : Nat) (xs9 : Nat → Int32) (hsc : g.2.2.2.2.2.1 = b9 ∧ g.2.2.2.2.2.2.1 = L9 ∧ g.2.2.2.2.2.2.2.1 = xs9) (n23 : Nat) (K23 : Nat → Nat → Nat → Int32 → AxS → Option (Int32 × AxS)) (hK23 : ∀ (v1 : Nat) (v2 : Nat) (v3 : Nat) (v4 : Int32) (S : AxS) (k9 n9 : Nat) (hk9 : k9 + 1 * (n23) ≤ 601024) (hn9 : n9 + 6 * (n23) ≤ 7293034), K23 v1 v2 v3 v4 S = some ((1, S9)) → AW g l room_1 mt_L_law_ (axLQ g) k9 n9 S 23 [(0, .ref b9), (1, .ref v1), (2, .ref v2), (3, .ref v3), (4, .int v4)] []) (v1 : Nat) (v2 : Nat) (v3 : Nat) (v4 : Int32) (S : AxS) (k9 n9 : Nat) (hk9 : k9 + 1 * (n23 + 1) ≤ 601024) (hn9 : n9 + 6 * (n23 + 1) ≤ 7293034) (h : F_L_law__505 N L9 xs9 K23 v1 v2 v3 v4 S = some ((1, S9))) : AW g l room_1 mt_L_law_ (axLQ g) k9 n9 S 505 [(0, .ref b9), (1, .ref v1), (2, .ref v2), (3, .ref v3), (4, .int v4)] [] := by
  unfold F_L_law__505 at h
  refine aw_aload_n 1 dL_law__505 rfl rfl ?_
  obtain ⟨hL1, h⟩ := ax_is_spec h
  refine aw_doneI (rest := []) h (fun r9 S9 hF => aw_runV (As := []) (rest := []) (L1_X9_fault N hF) axc9 hL1 wd_526 wd_523 wd_524 wd_525 wd_87 pd_X9_fault rfl (ax_rmL rfl rfl) (ax_hfLw (by omega) (by omega)) (Nat.le_of_ble_eq_true rfl) rfl dL_law__506) (fun x3 T2 h => ?_)
  refine aw_aload_n 2 dL_law__509 rfl rfl ?_
  obtain ⟨hL4, h⟩ := ax_is_spec h
  refine aw_doneI (rest := [.int x3]) h (fun r9 S9 hF => aw_runV (As := []) (rest := [.int x3]) (L1_X10_fault N hF) axc10 hL4 wd_1567 wd_1564 wd_1565 wd_1566 wd_97 pd_X10_fault rfl (ax_rmL rfl rfl) (ax_hfLw (by omega) (by omega)) (Nat.le_of_ble_eq_true rfl) rfl dL_law__510) (fun x6 T5 h => ?_)
  refine aw_icmp_eq 2507 dL_law__513 (by decide) h (fun h => ?_) (fun h => ?_)
  · refine aw_env [(0, .ref b9), (1, .ref v1), (2, .ref v2), (3, .ref v3), (4, .int v4)] [0, 1, 2, 3, 4] rfl ?_
    exact L1_L_law__2507 hl0 N b9 L9 xs9 hsc n23 K23 hK23 v1 v2 v3 v4 T5 _ _ (by omega) (by omega) h
  · refine aw_iconst 0 dL_law__516 rfl ?_
    exact aw_lawret rfl rfl dL_law__517 (by omega) (by omega) h
theorem L1_L_law__518 {g : AxG} {l : Launch} (hl0 : l.stackTraces = false) {S9 : AxS} (N : Nat) (b9 : Nat) (L9 : Nat) (xs9 : Nat → Int32) (hsc : g.2.2.2.2.2.1 = b9 ∧ g.2.2.2.2.2.2.1 = L9 ∧ g.2.2.2.2.2.2.2.1 = xs9) (n23 : Nat) (K23 : Nat → Nat → Nat → Int32 → AxS → Option (Int32 × AxS)) (hK23 : ∀ (v1 : Nat) (v2 : Nat) (v3 : Nat) (v4 : Int32) (S : AxS) (k9 n9 : Nat) (hk9 : k9 + 1 * (n23) ≤ 601024) (hn9 : n9 + 6 * (n23) ≤ 7293034), K23 v1 v2 v3 v4 S = some ((1, S9)) → AW g l room_1 mt_L_law_ (axLQ g) k9 n9 S 23 [(0, .ref b9), (1, .ref v1), (2, .ref v2), (3, .ref v3), (4, .int v4)] []) (v1 : Nat) (v2 : Nat) (v3 : Nat) (v4 : Int32) (S : AxS) (k9 n9 : Nat) (hk9 : k9 + 1 * (n23 + 1) ≤ 601024) (hn9 : n9 + 6 * (n23 + 1) ≤ 7293034) (h : F_L_law__518 N L9 xs9 K23 v1 v2 v3 v4 S = some ((1, S9))) : AW g l room_1 mt_L_law_ (axLQ g) k9 n9 S 518 [(0, .ref b9), (1, .ref v1), (2, .ref v2), (3, .ref v3), (4, .int v4)] [] := by
  unfold F_L_law__518 at h
  refine aw_aload_n 1 dL_law__518 rfl rfl ?_
  obtain ⟨hL1, h⟩ := ax_is_spec h
  refine aw_doneI (rest := []) h (fun r9 S9 hF => aw_runV (As := []) (rest := []) (L1_X9_undo N hF) axc9 hL1 wd_530 wd_527 wd_528 wd_529 wd_87 pd_X9_undo rfl (ax_rmL rfl rfl) (ax_hfLw (by omega) (by omega)) (Nat.le_of_ble_eq_true rfl) rfl dL_law__519) (fun x3 T2 h => ?_)
  refine aw_aload_n 2 dL_law__522 rfl rfl ?_
  obtain ⟨hL4, h⟩ := ax_is_spec h
  refine aw_doneI (rest := [.int x3]) h (fun r9 S9 hF => aw_runV (As := []) (rest := [.int x3]) (L1_X10_undo N hF) axc10 hL4 wd_1637 wd_1634 wd_1635 wd_1636 wd_97 pd_X10_undo rfl (ax_rmL rfl rfl) (ax_hfLw (by omega) (by omega)) (Nat.le_of_ble_eq_true rfl) rfl dL_law__523) (fun x6 T5 h => ?_)
  refine aw_icmp_eq 2507 dL_law__526 (by decide) h (fun h => ?_) (fun h => ?_)
  · refine aw_env [(0, .ref b9), (1, .ref v1), (2, .ref v2), (3, .ref v3), (4, .int v4)] [0, 1, 2, 3, 4] rfl ?_
    exact L1_L_law__2507 hl0 N b9 L9 xs9 hsc n23 K23 hK23 v1 v2 v3 v4 T5 _ _ (by omega) (by omega) h
  · refine aw_iconst 0 dL_law__529 rfl ?_
    exact aw_lawret rfl rfl dL_law__530 (by omega) (by omega) h
theorem L1_L_law__584 {g : AxG} {l : Launch} (hl0 : l.stackTraces = false) {S9 : AxS} (N : Nat) (b9 : Nat) (L9 : Nat) (xs9 : Nat → Int32) (hsc : g.2.2.2.2.2.1 = b9 ∧ g.2.2.2.2.2.2.1 = L9 ∧ g.2.2.2.2.2.2.2.1 = xs9) (n23 : Nat) (K23 : Nat → Nat → Nat → Int32 → AxS → Option (Int32 × AxS)) (hK23 : ∀ (v1 : Nat) (v2 : Nat) (v3 : Nat) (v4 : Int32) (S : AxS) (k9 n9 : Nat) (hk9 : k9 + 1 * (n23) ≤ 601024) (hn9 : n9 + 6 * (n23) ≤ 7293034), K23 v1 v2 v3 v4 S = some ((1, S9)) → AW g l room_1 mt_L_law_ (axLQ g) k9 n9 S 23 [(0, .ref b9), (1, .ref v1), (2, .ref v2), (3, .ref v3), (4, .int v4)] []) (v1 : Nat) (v2 : Nat) (v3 : Nat) (v4 : Int32) (S : AxS) (k9 n9 : Nat) (hk9 : k9 + 1 * (n23) ≤ 601024) (hn9 : n9 + 6 * (n23) ≤ 7293034) (h : F_L_law__584 N L9 xs9 K23 v1 v2 v3 v4 S = some ((1, S9))) : AW g l room_1 mt_L_law_ (axLQ g) k9 n9 S 584 [(0, .ref b9), (1, .ref v1), (2, .ref v2), (3, .ref v3), (4, .int v4)] [] := by
  unfold F_L_law__584 at h
  refine aw_goto 2507 dL_law__584 (by decide) ?_
  refine aw_env [(0, .ref b9), (1, .ref v1), (2, .ref v2), (3, .ref v3), (4, .int v4)] [0, 1, 2, 3, 4] rfl ?_
  exact L1_L_law__2507 hl0 N b9 L9 xs9 hsc n23 K23 hK23 v1 v2 v3 v4 S _ _ (by omega) (by omega) h
theorem L1_L_law__531 {g : AxG} {l : Launch} (hl0 : l.stackTraces = false) {S9 : AxS} (N : Nat) (b9 : Nat) (L9 : Nat) (xs9 : Nat → Int32) (hsc : g.2.2.2.2.2.1 = b9 ∧ g.2.2.2.2.2.2.1 = L9 ∧ g.2.2.2.2.2.2.2.1 = xs9) (n23 : Nat) (K23 : Nat → Nat → Nat → Int32 → AxS → Option (Int32 × AxS)) (hK23 : ∀ (v1 : Nat) (v2 : Nat) (v3 : Nat) (v4 : Int32) (S : AxS) (k9 n9 : Nat) (hk9 : k9 + 1 * (n23) ≤ 601024) (hn9 : n9 + 6 * (n23) ≤ 7293034), K23 v1 v2 v3 v4 S = some ((1, S9)) → AW g l room_1 mt_L_law_ (axLQ g) k9 n9 S 23 [(0, .ref b9), (1, .ref v1), (2, .ref v2), (3, .ref v3), (4, .int v4)] []) (v1 : Nat) (v2 : Nat) (v3 : Nat) (v4 : Int32) (S : AxS) (k9 n9 : Nat) (hk9 : k9 + 1 * (n23 + 1) ≤ 601024) (hn9 : n9 + 6 * (n23 + 1) ≤ 7293034) (h : F_L_law__531 N L9 xs9 K23 v1 v2 v3 v4 S = some ((1, S9))) : AW g l room_1 mt_L_law_ (axLQ g) k9 n9 S 531 [(0, .ref b9), (1, .ref v1), (2, .ref v2), (3, .ref v3), (4, .int v4)] [] := by
  unfold F_L_law__531 at h
  refine aw_aload_n 1 dL_law__531 rfl rfl ?_
  refine aw_aload_n 0 dL_law__532 rfl rfl ?_
  refine aw_iload 4 dL_law__533 rfl ?_
  refine aw_iconst 1 dL_law__535 rfl ?_
  refine aw_iadd dL_law__536 ?_
  refine aw_sld hsc dL_law__537 h (fun x1 h => ?_)
  refine aw_aload_n 3 dL_law__538 rfl rfl ?_
  refine aw_doneI (rest := []) h (fun r9 S9 hF => aw_runSH (As := [.ref v1, .int x1, .ref v3]) (rest := []) (L1_L_told hl0 N hF) wd_952 wd_950 wd_951 wd_86 pd_L_told.2 rfl (ax_rmL rfl rfl) (ax_hfLw (by omega) (by omega)) (Nat.le_of_ble_eq_true rfl) rfl dL_law__539) (fun x3 T2 h => ?_)
  refine aw_istore [(5, .int x3), (0, .ref b9), (1, .ref v1), (2, .ref v2), (3, .ref v3), (4, .int v4)] dL_law__542 rfl rfl ?_
  refine aw_aload_n 3 dL_law__544 rfl rfl ?_
  refine aw_aload_n 1 dL_law__545 rfl rfl ?_
  refine aw_iload 5 dL_law__546 rfl ?_
  refine aw_iconst 1 dL_law__548 rfl ?_
  refine aw_iadd dL_law__549 ?_
  refine aw_sld hsc dL_law__550 h (fun x4 h => ?_)
  obtain ⟨hL5, h⟩ := ax_is_spec h
  refine aw_doneI (rest := []) h (fun r9 S9 hF => aw_runV (As := [.int x4]) (rest := []) (L1_X10_told N hF) axc10 hL5 wd_1641 wd_1638 wd_1639 wd_1640 wd_97 pd_X10_told rfl (ax_rmL rfl rfl) (ax_hfLw (by omega) (by omega)) (Nat.le_of_ble_eq_true rfl) rfl dL_law__551) (fun x7 T6 h => ?_)
  refine aw_istore [(6, .int x7), (5, .int x3), (0, .ref b9), (1, .ref v1), (2, .ref v2), (3, .ref v3), (4, .int v4)] dL_law__554 rfl rfl ?_
  refine aw_aload_n 4 dL_law__556 rfl rfl ?_
  obtain ⟨hL8, h⟩ := ax_is_spec h
  refine aw_doneI (rest := []) h (fun r9 S9 hF => aw_runV (As := []) (rest := []) (L1_X10_thrown N hF) axc10 hL8 wd_1437 wd_1434 wd_1435 wd_1436 wd_97 pd_X10_thrown rfl (ax_rmL rfl rfl) (ax_hfLw (by omega) (by omega)) (Nat.le_of_ble_eq_true rfl) rfl dL_law__557) (fun x10 T9 h => ?_)
  refine aw_iload 1 dL_law__560 rfl ?_
  refine aw_icmp_eq 567 dL_law__562 (by decide) h (fun h => ?_) (fun h => ?_)
  · refine aw_iload 1 dL_law__567 rfl ?_
    refine aw_if_ne 584 dL_law__569 (by decide) h (fun h => ?_) (fun h => ?_)
    · refine aw_env [(0, .ref b9), (1, .ref v1), (2, .ref v2), (3, .ref v3), (4, .int v4)] [2, 3, 4, 5, 6] rfl ?_
      exact L1_L_law__584 hl0 N b9 L9 xs9 hsc n23 K23 hK23 v1 v2 v3 v4 T9 _ _ (by omega) (by omega) h
    · refine aw_aload_n 5 dL_law__572 rfl rfl ?_
      refine aw_iconst 0 dL_law__573 rfl ?_
      refine aw_lald dL_law__574 h (fun x11 h => ?_)
      refine aw_iload 0 dL_law__575 rfl ?_
      refine aw_i2l dL_law__577 ?_
      refine aw_lcmp dL_law__578 ?_
      refine aw_if_eq 584 dL_law__579 (by decide) h (fun h => ?_) (fun h => ?_)
      · refine aw_env [(0, .ref b9), (1, .ref v1), (2, .ref v2), (3, .ref v3), (4, .int v4)] [2, 3, 4, 5, 6] rfl ?_
        exact L1_L_law__584 hl0 N b9 L9 xs9 hsc n23 K23 hK23 v1 v2 v3 v4 T9 _ _ (by omega) (by omega) h
      · refine aw_iconst 0 dL_law__582 rfl ?_
        exact aw_lawret rfl rfl dL_law__583 (by omega) (by omega) h
  · refine aw_iconst 0 dL_law__565 rfl ?_
    exact aw_lawret rfl rfl dL_law__566 (by omega) (by omega) h
theorem L1_L_law__640 {g : AxG} {l : Launch} (hl0 : l.stackTraces = false) {S9 : AxS} (N : Nat) (b9 : Nat) (L9 : Nat) (xs9 : Nat → Int32) (hsc : g.2.2.2.2.2.1 = b9 ∧ g.2.2.2.2.2.2.1 = L9 ∧ g.2.2.2.2.2.2.2.1 = xs9) (n23 : Nat) (K23 : Nat → Nat → Nat → Int32 → AxS → Option (Int32 × AxS)) (hK23 : ∀ (v1 : Nat) (v2 : Nat) (v3 : Nat) (v4 : Int32) (S : AxS) (k9 n9 : Nat) (hk9 : k9 + 1 * (n23) ≤ 601024) (hn9 : n9 + 6 * (n23) ≤ 7293034), K23 v1 v2 v3 v4 S = some ((1, S9)) → AW g l room_1 mt_L_law_ (axLQ g) k9 n9 S 23 [(0, .ref b9), (1, .ref v1), (2, .ref v2), (3, .ref v3), (4, .int v4)] []) (v1 : Nat) (v2 : Nat) (v3 : Nat) (v4 : Int32) (S : AxS) (k9 n9 : Nat) (hk9 : k9 + 1 * (n23) ≤ 601024) (hn9 : n9 + 6 * (n23) ≤ 7293034) (h : F_L_law__640 N L9 xs9 K23 v1 v2 v3 v4 S = some ((1, S9))) : AW g l room_1 mt_L_law_ (axLQ g) k9 n9 S 640 [(0, .ref b9), (1, .ref v1), (2, .ref v2), (3, .ref v3), (4, .int v4)] [] := by
  unfold F_L_law__640 at h
  refine aw_goto 2507 dL_law__640 (by decide) ?_
  refine aw_env [(0, .ref b9), (1, .ref v1), (2, .ref v2), (3, .ref v3), (4, .int v4)] [0, 1, 2, 3, 4] rfl ?_
  exact L1_L_law__2507 hl0 N b9 L9 xs9 hsc n23 K23 hK23 v1 v2 v3 v4 S _ _ (by omega) (by omega) h
theorem L1_L_law__587 {g : AxG} {l : Launch} (hl0 : l.stackTraces = false) {S9 : AxS} (N : Nat) (b9 : Nat) (L9 : Nat) (xs9 : Nat → Int32) (hsc : g.2.2.2.2.2.1 = b9 ∧ g.2.2.2.2.2.2.1 = L9 ∧ g.2.2.2.2.2.2.2.1 = xs9) (n23 : Nat) (K23 : Nat → Nat → Nat → Int32 → AxS → Option (Int32 × AxS)) (hK23 : ∀ (v1 : Nat) (v2 : Nat) (v3 : Nat) (v4 : Int32) (S : AxS) (k9 n9 : Nat) (hk9 : k9 + 1 * (n23) ≤ 601024) (hn9 : n9 + 6 * (n23) ≤ 7293034), K23 v1 v2 v3 v4 S = some ((1, S9)) → AW g l room_1 mt_L_law_ (axLQ g) k9 n9 S 23 [(0, .ref b9), (1, .ref v1), (2, .ref v2), (3, .ref v3), (4, .int v4)] []) (v1 : Nat) (v2 : Nat) (v3 : Nat) (v4 : Int32) (S : AxS) (k9 n9 : Nat) (hk9 : k9 + 1 * (n23 + 1) ≤ 601024) (hn9 : n9 + 6 * (n23 + 1) ≤ 7293034) (h : F_L_law__587 N L9 xs9 K23 v1 v2 v3 v4 S = some ((1, S9))) : AW g l room_1 mt_L_law_ (axLQ g) k9 n9 S 587 [(0, .ref b9), (1, .ref v1), (2, .ref v2), (3, .ref v3), (4, .int v4)] [] := by
  unfold F_L_law__587 at h
  refine aw_aload_n 1 dL_law__587 rfl rfl ?_
  refine aw_aload_n 0 dL_law__588 rfl rfl ?_
  refine aw_iload 4 dL_law__589 rfl ?_
  refine aw_iconst 1 dL_law__591 rfl ?_
  refine aw_iadd dL_law__592 ?_
  refine aw_sld hsc dL_law__593 h (fun x1 h => ?_)
  refine aw_aload_n 3 dL_law__594 rfl rfl ?_
  refine aw_doneI (rest := []) h (fun r9 S9 hF => aw_runSH (As := [.ref v1, .int x1, .ref v3]) (rest := []) (L1_L_many hl0 N hF) wd_959 wd_957 wd_958 wd_86 pd_L_many.2 rfl (ax_rmL rfl rfl) (ax_hfLw (by omega) (by omega)) (Nat.le_of_ble_eq_true rfl) rfl dL_law__595) (fun x3 T2 h => ?_)
  refine aw_istore [(5, .int x3), (0, .ref b9), (1, .ref v1), (2, .ref v2), (3, .ref v3), (4, .int v4)] dL_law__598 rfl rfl ?_
  refine aw_aload_n 3 dL_law__600 rfl rfl ?_
  refine aw_aload_n 1 dL_law__601 rfl rfl ?_
  refine aw_iload 5 dL_law__602 rfl ?_
  refine aw_iconst 1 dL_law__604 rfl ?_
  refine aw_iadd dL_law__605 ?_
  refine aw_sld hsc dL_law__606 h (fun x4 h => ?_)
  obtain ⟨hL5, h⟩ := ax_is_spec h
  refine aw_doneI (rest := []) h (fun r9 S9 hF => aw_runV (As := [.int x4]) (rest := []) (L1_X10_many N hF) axc10 hL5 wd_1645 wd_1642 wd_1643 wd_1644 wd_97 pd_X10_many rfl (ax_rmL rfl rfl) (ax_hfLw (by omega) (by omega)) (Nat.le_of_ble_eq_true rfl) rfl dL_law__607) (fun x7 T6 h => ?_)
  refine aw_istore [(6, .int x7), (5, .int x3), (0, .ref b9), (1, .ref v1), (2, .ref v2), (3, .ref v3), (4, .int v4)] dL_law__610 rfl rfl ?_
  refine aw_aload_n 4 dL_law__612 rfl rfl ?_
  obtain ⟨hL8, h⟩ := ax_is_spec h
  refine aw_doneI (rest := []) h (fun r9 S9 hF => aw_runV (As := []) (rest := []) (L1_X10_thrown N hF) axc10 hL8 wd_1437 wd_1434 wd_1435 wd_1436 wd_97 pd_X10_thrown rfl (ax_rmL rfl rfl) (ax_hfLw (by omega) (by omega)) (Nat.le_of_ble_eq_true rfl) rfl dL_law__613) (fun x10 T9 h => ?_)
  refine aw_iload 1 dL_law__616 rfl ?_
  refine aw_icmp_eq 623 dL_law__618 (by decide) h (fun h => ?_) (fun h => ?_)
  · refine aw_iload 1 dL_law__623 rfl ?_
    refine aw_if_ne 640 dL_law__625 (by decide) h (fun h => ?_) (fun h => ?_)
    · refine aw_env [(0, .ref b9), (1, .ref v1), (2, .ref v2), (3, .ref v3), (4, .int v4)] [2, 3, 4, 5, 6] rfl ?_
      exact L1_L_law__640 hl0 N b9 L9 xs9 hsc n23 K23 hK23 v1 v2 v3 v4 T9 _ _ (by omega) (by omega) h
    · refine aw_aload_n 5 dL_law__628 rfl rfl ?_
      refine aw_iconst 0 dL_law__629 rfl ?_
      refine aw_lald dL_law__630 h (fun x11 h => ?_)
      refine aw_iload 0 dL_law__631 rfl ?_
      refine aw_i2l dL_law__633 ?_
      refine aw_lcmp dL_law__634 ?_
      refine aw_if_eq 640 dL_law__635 (by decide) h (fun h => ?_) (fun h => ?_)
      · refine aw_env [(0, .ref b9), (1, .ref v1), (2, .ref v2), (3, .ref v3), (4, .int v4)] [2, 3, 4, 5, 6] rfl ?_
        exact L1_L_law__640 hl0 N b9 L9 xs9 hsc n23 K23 hK23 v1 v2 v3 v4 T9 _ _ (by omega) (by omega) h
      · refine aw_iconst 0 dL_law__638 rfl ?_
        exact aw_lawret rfl rfl dL_law__639 (by omega) (by omega) h
  · refine aw_iconst 0 dL_law__621 rfl ?_
    exact aw_lawret rfl rfl dL_law__622 (by omega) (by omega) h
theorem L1_L_law__708 {g : AxG} {l : Launch} (hl0 : l.stackTraces = false) {S9 : AxS} (N : Nat) (b9 : Nat) (L9 : Nat) (xs9 : Nat → Int32) (hsc : g.2.2.2.2.2.1 = b9 ∧ g.2.2.2.2.2.2.1 = L9 ∧ g.2.2.2.2.2.2.2.1 = xs9) (n23 : Nat) (K23 : Nat → Nat → Nat → Int32 → AxS → Option (Int32 × AxS)) (hK23 : ∀ (v1 : Nat) (v2 : Nat) (v3 : Nat) (v4 : Int32) (S : AxS) (k9 n9 : Nat) (hk9 : k9 + 1 * (n23) ≤ 601024) (hn9 : n9 + 6 * (n23) ≤ 7293034), K23 v1 v2 v3 v4 S = some ((1, S9)) → AW g l room_1 mt_L_law_ (axLQ g) k9 n9 S 23 [(0, .ref b9), (1, .ref v1), (2, .ref v2), (3, .ref v3), (4, .int v4)] []) (v1 : Nat) (v2 : Nat) (v3 : Nat) (v4 : Int32) (S : AxS) (k9 n9 : Nat) (hk9 : k9 + 1 * (n23) ≤ 601024) (hn9 : n9 + 6 * (n23) ≤ 7293034) (h : F_L_law__708 N L9 xs9 K23 v1 v2 v3 v4 S = some ((1, S9))) : AW g l room_1 mt_L_law_ (axLQ g) k9 n9 S 708 [(0, .ref b9), (1, .ref v1), (2, .ref v2), (3, .ref v3), (4, .int v4)] [] := by
  unfold F_L_law__708 at h
  refine aw_goto 2507 dL_law__708 (by decide) ?_
  refine aw_env [(0, .ref b9), (1, .ref v1), (2, .ref v2), (3, .ref v3), (4, .int v4)] [0, 1, 2, 3, 4] rfl ?_
  exact L1_L_law__2507 hl0 N b9 L9 xs9 hsc n23 K23 hK23 v1 v2 v3 v4 S _ _ (by omega) (by omega) h
theorem L1_L_law__643 {g : AxG} {l : Launch} (hl0 : l.stackTraces = false) {S9 : AxS} (N : Nat) (b9 : Nat) (L9 : Nat) (xs9 : Nat → Int32) (hsc : g.2.2.2.2.2.1 = b9 ∧ g.2.2.2.2.2.2.1 = L9 ∧ g.2.2.2.2.2.2.2.1 = xs9) (n23 : Nat) (K23 : Nat → Nat → Nat → Int32 → AxS → Option (Int32 × AxS)) (hK23 : ∀ (v1 : Nat) (v2 : Nat) (v3 : Nat) (v4 : Int32) (S : AxS) (k9 n9 : Nat) (hk9 : k9 + 1 * (n23) ≤ 601024) (hn9 : n9 + 6 * (n23) ≤ 7293034), K23 v1 v2 v3 v4 S = some ((1, S9)) → AW g l room_1 mt_L_law_ (axLQ g) k9 n9 S 23 [(0, .ref b9), (1, .ref v1), (2, .ref v2), (3, .ref v3), (4, .int v4)] []) (v1 : Nat) (v2 : Nat) (v3 : Nat) (v4 : Int32) (S : AxS) (k9 n9 : Nat) (hk9 : k9 + 1 * (n23 + 1) ≤ 601024) (hn9 : n9 + 6 * (n23 + 1) ≤ 7293034) (h : F_L_law__643 N L9 xs9 K23 v1 v2 v3 v4 S = some ((1, S9))) : AW g l room_1 mt_L_law_ (axLQ g) k9 n9 S 643 [(0, .ref b9), (1, .ref v1), (2, .ref v2), (3, .ref v3), (4, .int v4)] [] := by
  unfold F_L_law__643 at h
  refine aw_aload_n 1 dL_law__643 rfl rfl ?_
  refine aw_aload_n 0 dL_law__644 rfl rfl ?_
  refine aw_iload 4 dL_law__645 rfl ?_
  refine aw_iconst 1 dL_law__647 rfl ?_
  refine aw_iadd dL_law__648 ?_
  refine aw_sld hsc dL_law__649 h (fun x1 h => ?_)
  refine aw_aload_n 0 dL_law__650 rfl rfl ?_
  refine aw_iload 4 dL_law__651 rfl ?_
  refine aw_iconst 2 dL_law__653 rfl ?_
  refine aw_iadd dL_law__654 ?_
  refine aw_sld hsc dL_law__655 h (fun x2 h => ?_)
  refine aw_aload_n 3 dL_law__656 rfl rfl ?_
  refine aw_doneI (rest := []) h (fun r9 S9 hF => aw_runSH (As := [.ref v1, .int x1, .int x2, .ref v3]) (rest := []) (L1_L_monk hl0 N hF) wd_966 wd_964 wd_965 wd_86 pd_L_monk.2 rfl (ax_rmL rfl rfl) (ax_hfLw (by omega) (by omega)) (Nat.le_of_ble_eq_true rfl) rfl dL_law__657) (fun x4 T3 h => ?_)
  refine aw_istore [(5, .int x4), (0, .ref b9), (1, .ref v1), (2, .ref v2), (3, .ref v3), (4, .int v4)] dL_law__660 rfl rfl ?_
  refine aw_aload_n 3 dL_law__662 rfl rfl ?_
  refine aw_aload_n 1 dL_law__663 rfl rfl ?_
  refine aw_iload 5 dL_law__664 rfl ?_
  refine aw_iconst 1 dL_law__666 rfl ?_
  refine aw_iadd dL_law__667 ?_
  refine aw_sld hsc dL_law__668 h (fun x5 h => ?_)
  refine aw_aload_n 1 dL_law__669 rfl rfl ?_
  refine aw_iload 5 dL_law__670 rfl ?_
  refine aw_iconst 2 dL_law__672 rfl ?_
  refine aw_iadd dL_law__673 ?_
  refine aw_sld hsc dL_law__674 h (fun x6 h => ?_)
  obtain ⟨hL7, h⟩ := ax_is_spec h
  refine aw_doneI (rest := []) h (fun r9 S9 hF => aw_runV (As := [.int x5, .int x6]) (rest := []) (L1_X10_monk N hF) axc10 hL7 wd_1649 wd_1646 wd_1647 wd_1648 wd_97 pd_X10_monk rfl (ax_rmL rfl rfl) (ax_hfLw (by omega) (by omega)) (Nat.le_of_ble_eq_true rfl) rfl dL_law__675) (fun x9 T8 h => ?_)
  refine aw_istore [(6, .int x9), (5, .int x4), (0, .ref b9), (1, .ref v1), (2, .ref v2), (3, .ref v3), (4, .int v4)] dL_law__678 rfl rfl ?_
  refine aw_aload_n 4 dL_law__680 rfl rfl ?_
  obtain ⟨hL10, h⟩ := ax_is_spec h
  refine aw_doneI (rest := []) h (fun r9 S9 hF => aw_runV (As := []) (rest := []) (L1_X10_thrown N hF) axc10 hL10 wd_1437 wd_1434 wd_1435 wd_1436 wd_97 pd_X10_thrown rfl (ax_rmL rfl rfl) (ax_hfLw (by omega) (by omega)) (Nat.le_of_ble_eq_true rfl) rfl dL_law__681) (fun x12 T11 h => ?_)
  refine aw_iload 1 dL_law__684 rfl ?_
  refine aw_icmp_eq 691 dL_law__686 (by decide) h (fun h => ?_) (fun h => ?_)
  · refine aw_iload 1 dL_law__691 rfl ?_
    refine aw_if_ne 708 dL_law__693 (by decide) h (fun h => ?_) (fun h => ?_)
    · refine aw_env [(0, .ref b9), (1, .ref v1), (2, .ref v2), (3, .ref v3), (4, .int v4)] [2, 3, 4, 5, 6] rfl ?_
      exact L1_L_law__708 hl0 N b9 L9 xs9 hsc n23 K23 hK23 v1 v2 v3 v4 T11 _ _ (by omega) (by omega) h
    · refine aw_aload_n 5 dL_law__696 rfl rfl ?_
      refine aw_iconst 0 dL_law__697 rfl ?_
      refine aw_lald dL_law__698 h (fun x13 h => ?_)
      refine aw_iload 0 dL_law__699 rfl ?_
      refine aw_i2l dL_law__701 ?_
      refine aw_lcmp dL_law__702 ?_
      refine aw_if_eq 708 dL_law__703 (by decide) h (fun h => ?_) (fun h => ?_)
      · refine aw_env [(0, .ref b9), (1, .ref v1), (2, .ref v2), (3, .ref v3), (4, .int v4)] [2, 3, 4, 5, 6] rfl ?_
        exact L1_L_law__708 hl0 N b9 L9 xs9 hsc n23 K23 hK23 v1 v2 v3 v4 T11 _ _ (by omega) (by omega) h
      · refine aw_iconst 0 dL_law__706 rfl ?_
        exact aw_lawret rfl rfl dL_law__707 (by omega) (by omega) h
  · refine aw_iconst 0 dL_law__689 rfl ?_
    exact aw_lawret rfl rfl dL_law__690 (by omega) (by omega) h
theorem L1_L_law__776 {g : AxG} {l : Launch} (hl0 : l.stackTraces = false) {S9 : AxS} (N : Nat) (b9 : Nat) (L9 : Nat) (xs9 : Nat → Int32) (hsc : g.2.2.2.2.2.1 = b9 ∧ g.2.2.2.2.2.2.1 = L9 ∧ g.2.2.2.2.2.2.2.1 = xs9) (n23 : Nat) (K23 : Nat → Nat → Nat → Int32 → AxS → Option (Int32 × AxS)) (hK23 : ∀ (v1 : Nat) (v2 : Nat) (v3 : Nat) (v4 : Int32) (S : AxS) (k9 n9 : Nat) (hk9 : k9 + 1 * (n23) ≤ 601024) (hn9 : n9 + 6 * (n23) ≤ 7293034), K23 v1 v2 v3 v4 S = some ((1, S9)) → AW g l room_1 mt_L_law_ (axLQ g) k9 n9 S 23 [(0, .ref b9), (1, .ref v1), (2, .ref v2), (3, .ref v3), (4, .int v4)] []) (v1 : Nat) (v2 : Nat) (v3 : Nat) (v4 : Int32) (S : AxS) (k9 n9 : Nat) (hk9 : k9 + 1 * (n23) ≤ 601024) (hn9 : n9 + 6 * (n23) ≤ 7293034) (h : F_L_law__776 N L9 xs9 K23 v1 v2 v3 v4 S = some ((1, S9))) : AW g l room_1 mt_L_law_ (axLQ g) k9 n9 S 776 [(0, .ref b9), (1, .ref v1), (2, .ref v2), (3, .ref v3), (4, .int v4)] [] := by
  unfold F_L_law__776 at h
  refine aw_goto 2507 dL_law__776 (by decide) ?_
  refine aw_env [(0, .ref b9), (1, .ref v1), (2, .ref v2), (3, .ref v3), (4, .int v4)] [0, 1, 2, 3, 4] rfl ?_
  exact L1_L_law__2507 hl0 N b9 L9 xs9 hsc n23 K23 hK23 v1 v2 v3 v4 S _ _ (by omega) (by omega) h
theorem L1_L_law__711 {g : AxG} {l : Launch} (hl0 : l.stackTraces = false) {S9 : AxS} (N : Nat) (b9 : Nat) (L9 : Nat) (xs9 : Nat → Int32) (hsc : g.2.2.2.2.2.1 = b9 ∧ g.2.2.2.2.2.2.1 = L9 ∧ g.2.2.2.2.2.2.2.1 = xs9) (n23 : Nat) (K23 : Nat → Nat → Nat → Int32 → AxS → Option (Int32 × AxS)) (hK23 : ∀ (v1 : Nat) (v2 : Nat) (v3 : Nat) (v4 : Int32) (S : AxS) (k9 n9 : Nat) (hk9 : k9 + 1 * (n23) ≤ 601024) (hn9 : n9 + 6 * (n23) ≤ 7293034), K23 v1 v2 v3 v4 S = some ((1, S9)) → AW g l room_1 mt_L_law_ (axLQ g) k9 n9 S 23 [(0, .ref b9), (1, .ref v1), (2, .ref v2), (3, .ref v3), (4, .int v4)] []) (v1 : Nat) (v2 : Nat) (v3 : Nat) (v4 : Int32) (S : AxS) (k9 n9 : Nat) (hk9 : k9 + 1 * (n23 + 1) ≤ 601024) (hn9 : n9 + 6 * (n23 + 1) ≤ 7293034) (h : F_L_law__711 N L9 xs9 K23 v1 v2 v3 v4 S = some ((1, S9))) : AW g l room_1 mt_L_law_ (axLQ g) k9 n9 S 711 [(0, .ref b9), (1, .ref v1), (2, .ref v2), (3, .ref v3), (4, .int v4)] [] := by
  unfold F_L_law__711 at h
  refine aw_aload_n 1 dL_law__711 rfl rfl ?_
  refine aw_aload_n 0 dL_law__712 rfl rfl ?_
  refine aw_iload 4 dL_law__713 rfl ?_
  refine aw_iconst 1 dL_law__715 rfl ?_
  refine aw_iadd dL_law__716 ?_
  refine aw_sld hsc dL_law__717 h (fun x1 h => ?_)
  refine aw_aload_n 0 dL_law__718 rfl rfl ?_
  refine aw_iload 4 dL_law__719 rfl ?_
  refine aw_iconst 2 dL_law__721 rfl ?_
  refine aw_iadd dL_law__722 ?_
  refine aw_sld hsc dL_law__723 h (fun x2 h => ?_)
  refine aw_aload_n 3 dL_law__724 rfl rfl ?_
  refine aw_doneI (rest := []) h (fun r9 S9 hF => aw_runSH (As := [.ref v1, .int x1, .int x2, .ref v3]) (rest := []) (L1_L_village hl0 N hF) wd_994 wd_992 wd_993 wd_86 pd_L_village.2 rfl (ax_rmL rfl rfl) (ax_hfLw (by omega) (by omega)) (Nat.le_of_ble_eq_true rfl) rfl dL_law__725) (fun x4 T3 h => ?_)
  refine aw_istore [(5, .int x4), (0, .ref b9), (1, .ref v1), (2, .ref v2), (3, .ref v3), (4, .int v4)] dL_law__728 rfl rfl ?_
  refine aw_aload_n 3 dL_law__730 rfl rfl ?_
  refine aw_aload_n 1 dL_law__731 rfl rfl ?_
  refine aw_iload 5 dL_law__732 rfl ?_
  refine aw_iconst 1 dL_law__734 rfl ?_
  refine aw_iadd dL_law__735 ?_
  refine aw_sld hsc dL_law__736 h (fun x5 h => ?_)
  refine aw_aload_n 1 dL_law__737 rfl rfl ?_
  refine aw_iload 5 dL_law__738 rfl ?_
  refine aw_iconst 2 dL_law__740 rfl ?_
  refine aw_iadd dL_law__741 ?_
  refine aw_sld hsc dL_law__742 h (fun x6 h => ?_)
  obtain ⟨hL7, h⟩ := ax_is_spec h
  refine aw_doneI (rest := []) h (fun r9 S9 hF => aw_runV (As := [.int x5, .int x6]) (rest := []) (L1_X10_village N hF) axc10 hL7 wd_1657 wd_1654 wd_1655 wd_1656 wd_97 pd_X10_village rfl (ax_rmL rfl rfl) (ax_hfLw (by omega) (by omega)) (Nat.le_of_ble_eq_true rfl) rfl dL_law__743) (fun x9 T8 h => ?_)
  refine aw_istore [(6, .int x9), (5, .int x4), (0, .ref b9), (1, .ref v1), (2, .ref v2), (3, .ref v3), (4, .int v4)] dL_law__746 rfl rfl ?_
  refine aw_aload_n 4 dL_law__748 rfl rfl ?_
  obtain ⟨hL10, h⟩ := ax_is_spec h
  refine aw_doneI (rest := []) h (fun r9 S9 hF => aw_runV (As := []) (rest := []) (L1_X10_thrown N hF) axc10 hL10 wd_1437 wd_1434 wd_1435 wd_1436 wd_97 pd_X10_thrown rfl (ax_rmL rfl rfl) (ax_hfLw (by omega) (by omega)) (Nat.le_of_ble_eq_true rfl) rfl dL_law__749) (fun x12 T11 h => ?_)
  refine aw_iload 1 dL_law__752 rfl ?_
  refine aw_icmp_eq 759 dL_law__754 (by decide) h (fun h => ?_) (fun h => ?_)
  · refine aw_iload 1 dL_law__759 rfl ?_
    refine aw_if_ne 776 dL_law__761 (by decide) h (fun h => ?_) (fun h => ?_)
    · refine aw_env [(0, .ref b9), (1, .ref v1), (2, .ref v2), (3, .ref v3), (4, .int v4)] [2, 3, 4, 5, 6] rfl ?_
      exact L1_L_law__776 hl0 N b9 L9 xs9 hsc n23 K23 hK23 v1 v2 v3 v4 T11 _ _ (by omega) (by omega) h
    · refine aw_aload_n 5 dL_law__764 rfl rfl ?_
      refine aw_iconst 0 dL_law__765 rfl ?_
      refine aw_lald dL_law__766 h (fun x13 h => ?_)
      refine aw_iload 0 dL_law__767 rfl ?_
      refine aw_i2l dL_law__769 ?_
      refine aw_lcmp dL_law__770 ?_
      refine aw_if_eq 776 dL_law__771 (by decide) h (fun h => ?_) (fun h => ?_)
      · refine aw_env [(0, .ref b9), (1, .ref v1), (2, .ref v2), (3, .ref v3), (4, .int v4)] [2, 3, 4, 5, 6] rfl ?_
        exact L1_L_law__776 hl0 N b9 L9 xs9 hsc n23 K23 hK23 v1 v2 v3 v4 T11 _ _ (by omega) (by omega) h
      · refine aw_iconst 0 dL_law__774 rfl ?_
        exact aw_lawret rfl rfl dL_law__775 (by omega) (by omega) h
  · refine aw_iconst 0 dL_law__757 rfl ?_
    exact aw_lawret rfl rfl dL_law__758 (by omega) (by omega) h
theorem L1_L_law__832 {g : AxG} {l : Launch} (hl0 : l.stackTraces = false) {S9 : AxS} (N : Nat) (b9 : Nat) (L9 : Nat) (xs9 : Nat → Int32) (hsc : g.2.2.2.2.2.1 = b9 ∧ g.2.2.2.2.2.2.1 = L9 ∧ g.2.2.2.2.2.2.2.1 = xs9) (n23 : Nat) (K23 : Nat → Nat → Nat → Int32 → AxS → Option (Int32 × AxS)) (hK23 : ∀ (v1 : Nat) (v2 : Nat) (v3 : Nat) (v4 : Int32) (S : AxS) (k9 n9 : Nat) (hk9 : k9 + 1 * (n23) ≤ 601024) (hn9 : n9 + 6 * (n23) ≤ 7293034), K23 v1 v2 v3 v4 S = some ((1, S9)) → AW g l room_1 mt_L_law_ (axLQ g) k9 n9 S 23 [(0, .ref b9), (1, .ref v1), (2, .ref v2), (3, .ref v3), (4, .int v4)] []) (v1 : Nat) (v2 : Nat) (v3 : Nat) (v4 : Int32) (S : AxS) (k9 n9 : Nat) (hk9 : k9 + 1 * (n23) ≤ 601024) (hn9 : n9 + 6 * (n23) ≤ 7293034) (h : F_L_law__832 N L9 xs9 K23 v1 v2 v3 v4 S = some ((1, S9))) : AW g l room_1 mt_L_law_ (axLQ g) k9 n9 S 832 [(0, .ref b9), (1, .ref v1), (2, .ref v2), (3, .ref v3), (4, .int v4)] [] := by
  unfold F_L_law__832 at h
  refine aw_goto 2507 dL_law__832 (by decide) ?_
  refine aw_env [(0, .ref b9), (1, .ref v1), (2, .ref v2), (3, .ref v3), (4, .int v4)] [0, 1, 2, 3, 4] rfl ?_
  exact L1_L_law__2507 hl0 N b9 L9 xs9 hsc n23 K23 hK23 v1 v2 v3 v4 S _ _ (by omega) (by omega) h
theorem L1_L_law__779 {g : AxG} {l : Launch} (hl0 : l.stackTraces = false) {S9 : AxS} (N : Nat) (b9 : Nat) (L9 : Nat) (xs9 : Nat → Int32) (hsc : g.2.2.2.2.2.1 = b9 ∧ g.2.2.2.2.2.2.1 = L9 ∧ g.2.2.2.2.2.2.2.1 = xs9) (n23 : Nat) (K23 : Nat → Nat → Nat → Int32 → AxS → Option (Int32 × AxS)) (hK23 : ∀ (v1 : Nat) (v2 : Nat) (v3 : Nat) (v4 : Int32) (S : AxS) (k9 n9 : Nat) (hk9 : k9 + 1 * (n23) ≤ 601024) (hn9 : n9 + 6 * (n23) ≤ 7293034), K23 v1 v2 v3 v4 S = some ((1, S9)) → AW g l room_1 mt_L_law_ (axLQ g) k9 n9 S 23 [(0, .ref b9), (1, .ref v1), (2, .ref v2), (3, .ref v3), (4, .int v4)] []) (v1 : Nat) (v2 : Nat) (v3 : Nat) (v4 : Int32) (S : AxS) (k9 n9 : Nat) (hk9 : k9 + 1 * (n23 + 1) ≤ 601024) (hn9 : n9 + 6 * (n23 + 1) ≤ 7293034) (h : F_L_law__779 N L9 xs9 K23 v1 v2 v3 v4 S = some ((1, S9))) : AW g l room_1 mt_L_law_ (axLQ g) k9 n9 S 779 [(0, .ref b9), (1, .ref v1), (2, .ref v2), (3, .ref v3), (4, .int v4)] [] := by
  unfold F_L_law__779 at h
  refine aw_aload_n 1 dL_law__779 rfl rfl ?_
  refine aw_aload_n 0 dL_law__780 rfl rfl ?_
  refine aw_iload 4 dL_law__781 rfl ?_
  refine aw_iconst 1 dL_law__783 rfl ?_
  refine aw_iadd dL_law__784 ?_
  refine aw_sld hsc dL_law__785 h (fun x1 h => ?_)
  refine aw_aload_n 3 dL_law__786 rfl rfl ?_
  refine aw_doneI (rest := []) h (fun r9 S9 hF => aw_runSH (As := [.ref v1, .int x1, .ref v3]) (rest := []) (L1_L_cell hl0 N hF) wd_1001 wd_999 wd_1000 wd_86 pd_L_cell.2 rfl (ax_rmL rfl rfl) (ax_hfLw (by omega) (by omega)) (Nat.le_of_ble_eq_true rfl) rfl dL_law__787) (fun x3 T2 h => ?_)
  refine aw_istore [(5, .int x3), (0, .ref b9), (1, .ref v1), (2, .ref v2), (3, .ref v3), (4, .int v4)] dL_law__790 rfl rfl ?_
  refine aw_aload_n 3 dL_law__792 rfl rfl ?_
  refine aw_aload_n 1 dL_law__793 rfl rfl ?_
  refine aw_iload 5 dL_law__794 rfl ?_
  refine aw_iconst 1 dL_law__796 rfl ?_
  refine aw_iadd dL_law__797 ?_
  refine aw_sld hsc dL_law__798 h (fun x4 h => ?_)
  obtain ⟨hL5, h⟩ := ax_is_spec h
  refine aw_doneI (rest := []) h (fun r9 S9 hF => aw_runV (As := [.int x4]) (rest := []) (L1_X10_cell N hF) axc10 hL5 wd_1661 wd_1658 wd_1659 wd_1660 wd_97 pd_X10_cell rfl (ax_rmL rfl rfl) (ax_hfLw (by omega) (by omega)) (Nat.le_of_ble_eq_true rfl) rfl dL_law__799) (fun x7 T6 h => ?_)
  refine aw_istore [(6, .int x7), (5, .int x3), (0, .ref b9), (1, .ref v1), (2, .ref v2), (3, .ref v3), (4, .int v4)] dL_law__802 rfl rfl ?_
  refine aw_aload_n 4 dL_law__804 rfl rfl ?_
  obtain ⟨hL8, h⟩ := ax_is_spec h
  refine aw_doneI (rest := []) h (fun r9 S9 hF => aw_runV (As := []) (rest := []) (L1_X10_thrown N hF) axc10 hL8 wd_1437 wd_1434 wd_1435 wd_1436 wd_97 pd_X10_thrown rfl (ax_rmL rfl rfl) (ax_hfLw (by omega) (by omega)) (Nat.le_of_ble_eq_true rfl) rfl dL_law__805) (fun x10 T9 h => ?_)
  refine aw_iload 1 dL_law__808 rfl ?_
  refine aw_icmp_eq 815 dL_law__810 (by decide) h (fun h => ?_) (fun h => ?_)
  · refine aw_iload 1 dL_law__815 rfl ?_
    refine aw_if_ne 832 dL_law__817 (by decide) h (fun h => ?_) (fun h => ?_)
    · refine aw_env [(0, .ref b9), (1, .ref v1), (2, .ref v2), (3, .ref v3), (4, .int v4)] [2, 3, 4, 5, 6] rfl ?_
      exact L1_L_law__832 hl0 N b9 L9 xs9 hsc n23 K23 hK23 v1 v2 v3 v4 T9 _ _ (by omega) (by omega) h
    · refine aw_aload_n 5 dL_law__820 rfl rfl ?_
      refine aw_iconst 0 dL_law__821 rfl ?_
      refine aw_lald dL_law__822 h (fun x11 h => ?_)
      refine aw_iload 0 dL_law__823 rfl ?_
      refine aw_i2l dL_law__825 ?_
      refine aw_lcmp dL_law__826 ?_
      refine aw_if_eq 832 dL_law__827 (by decide) h (fun h => ?_) (fun h => ?_)
      · refine aw_env [(0, .ref b9), (1, .ref v1), (2, .ref v2), (3, .ref v3), (4, .int v4)] [2, 3, 4, 5, 6] rfl ?_
        exact L1_L_law__832 hl0 N b9 L9 xs9 hsc n23 K23 hK23 v1 v2 v3 v4 T9 _ _ (by omega) (by omega) h
      · refine aw_iconst 0 dL_law__830 rfl ?_
        exact aw_lawret rfl rfl dL_law__831 (by omega) (by omega) h
  · refine aw_iconst 0 dL_law__813 rfl ?_
    exact aw_lawret rfl rfl dL_law__814 (by omega) (by omega) h
theorem L1_L_law__888 {g : AxG} {l : Launch} (hl0 : l.stackTraces = false) {S9 : AxS} (N : Nat) (b9 : Nat) (L9 : Nat) (xs9 : Nat → Int32) (hsc : g.2.2.2.2.2.1 = b9 ∧ g.2.2.2.2.2.2.1 = L9 ∧ g.2.2.2.2.2.2.2.1 = xs9) (n23 : Nat) (K23 : Nat → Nat → Nat → Int32 → AxS → Option (Int32 × AxS)) (hK23 : ∀ (v1 : Nat) (v2 : Nat) (v3 : Nat) (v4 : Int32) (S : AxS) (k9 n9 : Nat) (hk9 : k9 + 1 * (n23) ≤ 601024) (hn9 : n9 + 6 * (n23) ≤ 7293034), K23 v1 v2 v3 v4 S = some ((1, S9)) → AW g l room_1 mt_L_law_ (axLQ g) k9 n9 S 23 [(0, .ref b9), (1, .ref v1), (2, .ref v2), (3, .ref v3), (4, .int v4)] []) (v1 : Nat) (v2 : Nat) (v3 : Nat) (v4 : Int32) (S : AxS) (k9 n9 : Nat) (hk9 : k9 + 1 * (n23) ≤ 601024) (hn9 : n9 + 6 * (n23) ≤ 7293034) (h : F_L_law__888 N L9 xs9 K23 v1 v2 v3 v4 S = some ((1, S9))) : AW g l room_1 mt_L_law_ (axLQ g) k9 n9 S 888 [(0, .ref b9), (1, .ref v1), (2, .ref v2), (3, .ref v3), (4, .int v4)] [] := by
  unfold F_L_law__888 at h
  refine aw_goto 2507 dL_law__888 (by decide) ?_
  refine aw_env [(0, .ref b9), (1, .ref v1), (2, .ref v2), (3, .ref v3), (4, .int v4)] [0, 1, 2, 3, 4] rfl ?_
  exact L1_L_law__2507 hl0 N b9 L9 xs9 hsc n23 K23 hK23 v1 v2 v3 v4 S _ _ (by omega) (by omega) h
theorem L1_L_law__835 {g : AxG} {l : Launch} (hl0 : l.stackTraces = false) {S9 : AxS} (N : Nat) (b9 : Nat) (L9 : Nat) (xs9 : Nat → Int32) (hsc : g.2.2.2.2.2.1 = b9 ∧ g.2.2.2.2.2.2.1 = L9 ∧ g.2.2.2.2.2.2.2.1 = xs9) (n23 : Nat) (K23 : Nat → Nat → Nat → Int32 → AxS → Option (Int32 × AxS)) (hK23 : ∀ (v1 : Nat) (v2 : Nat) (v3 : Nat) (v4 : Int32) (S : AxS) (k9 n9 : Nat) (hk9 : k9 + 1 * (n23) ≤ 601024) (hn9 : n9 + 6 * (n23) ≤ 7293034), K23 v1 v2 v3 v4 S = some ((1, S9)) → AW g l room_1 mt_L_law_ (axLQ g) k9 n9 S 23 [(0, .ref b9), (1, .ref v1), (2, .ref v2), (3, .ref v3), (4, .int v4)] []) (v1 : Nat) (v2 : Nat) (v3 : Nat) (v4 : Int32) (S : AxS) (k9 n9 : Nat) (hk9 : k9 + 1 * (n23 + 1) ≤ 601024) (hn9 : n9 + 6 * (n23 + 1) ≤ 7293034) (h : F_L_law__835 N L9 xs9 K23 v1 v2 v3 v4 S = some ((1, S9))) : AW g l room_1 mt_L_law_ (axLQ g) k9 n9 S 835 [(0, .ref b9), (1, .ref v1), (2, .ref v2), (3, .ref v3), (4, .int v4)] [] := by
  unfold F_L_law__835 at h
  refine aw_aload_n 1 dL_law__835 rfl rfl ?_
  refine aw_aload_n 0 dL_law__836 rfl rfl ?_
  refine aw_iload 4 dL_law__837 rfl ?_
  refine aw_iconst 1 dL_law__839 rfl ?_
  refine aw_iadd dL_law__840 ?_
  refine aw_sld hsc dL_law__841 h (fun x1 h => ?_)
  refine aw_aload_n 3 dL_law__842 rfl rfl ?_
  refine aw_doneI (rest := []) h (fun r9 S9 hF => aw_runSH (As := [.ref v1, .int x1, .ref v3]) (rest := []) (L1_L_heir hl0 N hF) wd_1008 wd_1006 wd_1007 wd_86 pd_L_heir.2 rfl (ax_rmL rfl rfl) (ax_hfLw (by omega) (by omega)) (Nat.le_of_ble_eq_true rfl) rfl dL_law__843) (fun x3 T2 h => ?_)
  refine aw_istore [(5, .int x3), (0, .ref b9), (1, .ref v1), (2, .ref v2), (3, .ref v3), (4, .int v4)] dL_law__846 rfl rfl ?_
  refine aw_aload_n 3 dL_law__848 rfl rfl ?_
  refine aw_aload_n 1 dL_law__849 rfl rfl ?_
  refine aw_iload 5 dL_law__850 rfl ?_
  refine aw_iconst 1 dL_law__852 rfl ?_
  refine aw_iadd dL_law__853 ?_
  refine aw_sld hsc dL_law__854 h (fun x4 h => ?_)
  obtain ⟨hL5, h⟩ := ax_is_spec h
  refine aw_doneI (rest := []) h (fun r9 S9 hF => aw_runV (As := [.int x4]) (rest := []) (L1_X10_heir N hF) axc10 hL5 wd_1665 wd_1662 wd_1663 wd_1664 wd_97 pd_X10_heir rfl (ax_rmL rfl rfl) (ax_hfLw (by omega) (by omega)) (Nat.le_of_ble_eq_true rfl) rfl dL_law__855) (fun x7 T6 h => ?_)
  refine aw_istore [(6, .int x7), (5, .int x3), (0, .ref b9), (1, .ref v1), (2, .ref v2), (3, .ref v3), (4, .int v4)] dL_law__858 rfl rfl ?_
  refine aw_aload_n 4 dL_law__860 rfl rfl ?_
  obtain ⟨hL8, h⟩ := ax_is_spec h
  refine aw_doneI (rest := []) h (fun r9 S9 hF => aw_runV (As := []) (rest := []) (L1_X10_thrown N hF) axc10 hL8 wd_1437 wd_1434 wd_1435 wd_1436 wd_97 pd_X10_thrown rfl (ax_rmL rfl rfl) (ax_hfLw (by omega) (by omega)) (Nat.le_of_ble_eq_true rfl) rfl dL_law__861) (fun x10 T9 h => ?_)
  refine aw_iload 1 dL_law__864 rfl ?_
  refine aw_icmp_eq 871 dL_law__866 (by decide) h (fun h => ?_) (fun h => ?_)
  · refine aw_iload 1 dL_law__871 rfl ?_
    refine aw_if_ne 888 dL_law__873 (by decide) h (fun h => ?_) (fun h => ?_)
    · refine aw_env [(0, .ref b9), (1, .ref v1), (2, .ref v2), (3, .ref v3), (4, .int v4)] [2, 3, 4, 5, 6] rfl ?_
      exact L1_L_law__888 hl0 N b9 L9 xs9 hsc n23 K23 hK23 v1 v2 v3 v4 T9 _ _ (by omega) (by omega) h
    · refine aw_aload_n 5 dL_law__876 rfl rfl ?_
      refine aw_iconst 0 dL_law__877 rfl ?_
      refine aw_lald dL_law__878 h (fun x11 h => ?_)
      refine aw_iload 0 dL_law__879 rfl ?_
      refine aw_i2l dL_law__881 ?_
      refine aw_lcmp dL_law__882 ?_
      refine aw_if_eq 888 dL_law__883 (by decide) h (fun h => ?_) (fun h => ?_)
      · refine aw_env [(0, .ref b9), (1, .ref v1), (2, .ref v2), (3, .ref v3), (4, .int v4)] [2, 3, 4, 5, 6] rfl ?_
        exact L1_L_law__888 hl0 N b9 L9 xs9 hsc n23 K23 hK23 v1 v2 v3 v4 T9 _ _ (by omega) (by omega) h
      · refine aw_iconst 0 dL_law__886 rfl ?_
        exact aw_lawret rfl rfl dL_law__887 (by omega) (by omega) h
  · refine aw_iconst 0 dL_law__869 rfl ?_
    exact aw_lawret rfl rfl dL_law__870 (by omega) (by omega) h
theorem L1_L_law__891 {g : AxG} {l : Launch} (hl0 : l.stackTraces = false) {S9 : AxS} (N : Nat) (b9 : Nat) (L9 : Nat) (xs9 : Nat → Int32) (hsc : g.2.2.2.2.2.1 = b9 ∧ g.2.2.2.2.2.2.1 = L9 ∧ g.2.2.2.2.2.2.2.1 = xs9) (n23 : Nat) (K23 : Nat → Nat → Nat → Int32 → AxS → Option (Int32 × AxS)) (hK23 : ∀ (v1 : Nat) (v2 : Nat) (v3 : Nat) (v4 : Int32) (S : AxS) (k9 n9 : Nat) (hk9 : k9 + 1 * (n23) ≤ 601024) (hn9 : n9 + 6 * (n23) ≤ 7293034), K23 v1 v2 v3 v4 S = some ((1, S9)) → AW g l room_1 mt_L_law_ (axLQ g) k9 n9 S 23 [(0, .ref b9), (1, .ref v1), (2, .ref v2), (3, .ref v3), (4, .int v4)] []) (v1 : Nat) (v2 : Nat) (v3 : Nat) (v4 : Int32) (S : AxS) (k9 n9 : Nat) (hk9 : k9 + 1 * (n23 + 1) ≤ 601024) (hn9 : n9 + 6 * (n23 + 1) ≤ 7293034) (h : F_L_law__891 N L9 xs9 K23 v1 v2 v3 v4 S = some ((1, S9))) : AW g l room_1 mt_L_law_ (axLQ g) k9 n9 S 891 [(0, .ref b9), (1, .ref v1), (2, .ref v2), (3, .ref v3), (4, .int v4)] [] := by
  unfold F_L_law__891 at h
  refine aw_aload_n 1 dL_law__891 rfl rfl ?_
  obtain ⟨hL1, h⟩ := ax_is_spec h
  refine aw_doneI (rest := []) h (fun r9 S9 hF => aw_runV (As := []) (rest := []) (L1_X9_strokes N hF) axc9 hL1 wd_545 wd_542 wd_543 wd_544 wd_87 pd_X9_strokes rfl (ax_rmL rfl rfl) (ax_hfLw (by omega) (by omega)) (Nat.le_of_ble_eq_true rfl) rfl dL_law__892) (fun x3 T2 h => ?_)
  refine aw_aload_n 2 dL_law__895 rfl rfl ?_
  obtain ⟨hL4, h⟩ := ax_is_spec h
  refine aw_doneI (rest := [.int x3]) h (fun r9 S9 hF => aw_runV (As := []) (rest := [.int x3]) (L1_X10_strokes N hF) axc10 hL4 wd_1669 wd_1666 wd_1667 wd_1668 wd_97 pd_X10_strokes rfl (ax_rmL rfl rfl) (ax_hfLw (by omega) (by omega)) (Nat.le_of_ble_eq_true rfl) rfl dL_law__896) (fun x6 T5 h => ?_)
  refine aw_icmp_eq 2507 dL_law__899 (by decide) h (fun h => ?_) (fun h => ?_)
  · refine aw_env [(0, .ref b9), (1, .ref v1), (2, .ref v2), (3, .ref v3), (4, .int v4)] [0, 1, 2, 3, 4] rfl ?_
    exact L1_L_law__2507 hl0 N b9 L9 xs9 hsc n23 K23 hK23 v1 v2 v3 v4 T5 _ _ (by omega) (by omega) h
  · refine aw_iconst 0 dL_law__902 rfl ?_
    exact aw_lawret rfl rfl dL_law__903 (by omega) (by omega) h
theorem L1_L_law__1033 {g : AxG} {l : Launch} (hl0 : l.stackTraces = false) {S9 : AxS} (N : Nat) (b9 : Nat) (L9 : Nat) (xs9 : Nat → Int32) (hsc : g.2.2.2.2.2.1 = b9 ∧ g.2.2.2.2.2.2.1 = L9 ∧ g.2.2.2.2.2.2.2.1 = xs9) (n23 : Nat) (K23 : Nat → Nat → Nat → Int32 → AxS → Option (Int32 × AxS)) (hK23 : ∀ (v1 : Nat) (v2 : Nat) (v3 : Nat) (v4 : Int32) (S : AxS) (k9 n9 : Nat) (hk9 : k9 + 1 * (n23) ≤ 601024) (hn9 : n9 + 6 * (n23) ≤ 7293034), K23 v1 v2 v3 v4 S = some ((1, S9)) → AW g l room_1 mt_L_law_ (axLQ g) k9 n9 S 23 [(0, .ref b9), (1, .ref v1), (2, .ref v2), (3, .ref v3), (4, .int v4)] []) (v1 : Nat) (v2 : Nat) (v3 : Nat) (v4 : Int32) (S : AxS) (k9 n9 : Nat) (hk9 : k9 + 1 * (n23) ≤ 601024) (hn9 : n9 + 6 * (n23) ≤ 7293034) (h : F_L_law__1033 N L9 xs9 K23 v1 v2 v3 v4 S = some ((1, S9))) : AW g l room_1 mt_L_law_ (axLQ g) k9 n9 S 1033 [(0, .ref b9), (1, .ref v1), (2, .ref v2), (3, .ref v3), (4, .int v4)] [] := by
  unfold F_L_law__1033 at h
  refine aw_goto 2507 dL_law__1033 (by decide) ?_
  refine aw_env [(0, .ref b9), (1, .ref v1), (2, .ref v2), (3, .ref v3), (4, .int v4)] [0, 1, 2, 3, 4] rfl ?_
  exact L1_L_law__2507 hl0 N b9 L9 xs9 hsc n23 K23 hK23 v1 v2 v3 v4 S _ _ (by omega) (by omega) h
theorem L1_L_law__904 {g : AxG} {l : Launch} (hl0 : l.stackTraces = false) {S9 : AxS} (N : Nat) (b9 : Nat) (L9 : Nat) (xs9 : Nat → Int32) (hsc : g.2.2.2.2.2.1 = b9 ∧ g.2.2.2.2.2.2.1 = L9 ∧ g.2.2.2.2.2.2.2.1 = xs9) (n23 : Nat) (K23 : Nat → Nat → Nat → Int32 → AxS → Option (Int32 × AxS)) (hK23 : ∀ (v1 : Nat) (v2 : Nat) (v3 : Nat) (v4 : Int32) (S : AxS) (k9 n9 : Nat) (hk9 : k9 + 1 * (n23) ≤ 601024) (hn9 : n9 + 6 * (n23) ≤ 7293034), K23 v1 v2 v3 v4 S = some ((1, S9)) → AW g l room_1 mt_L_law_ (axLQ g) k9 n9 S 23 [(0, .ref b9), (1, .ref v1), (2, .ref v2), (3, .ref v3), (4, .int v4)] []) (v1 : Nat) (v2 : Nat) (v3 : Nat) (v4 : Int32) (S : AxS) (k9 n9 : Nat) (hk9 : k9 + 1 * (n23 + 1) ≤ 601024) (hn9 : n9 + 6 * (n23 + 1) ≤ 7293034) (h : F_L_law__904 N L9 xs9 K23 v1 v2 v3 v4 S = some ((1, S9))) : AW g l room_1 mt_L_law_ (axLQ g) k9 n9 S 904 [(0, .ref b9), (1, .ref v1), (2, .ref v2), (3, .ref v3), (4, .int v4)] [] := by
  unfold F_L_law__904 at h
  refine aw_aload_n 1 dL_law__904 rfl rfl ?_
  refine aw_aload_n 0 dL_law__905 rfl rfl ?_
  refine aw_iload 4 dL_law__906 rfl ?_
  refine aw_iconst 1 dL_law__908 rfl ?_
  refine aw_iadd dL_law__909 ?_
  refine aw_sld hsc dL_law__910 h (fun x1 h => ?_)
  refine aw_aload_n 0 dL_law__911 rfl rfl ?_
  refine aw_iload 4 dL_law__912 rfl ?_
  refine aw_iconst 2 dL_law__914 rfl ?_
  refine aw_iadd dL_law__915 ?_
  refine aw_sld hsc dL_law__916 h (fun x2 h => ?_)
  refine aw_aload_n 0 dL_law__917 rfl rfl ?_
  refine aw_iload 4 dL_law__918 rfl ?_
  refine aw_iconst 3 dL_law__920 rfl ?_
  refine aw_iadd dL_law__921 ?_
  refine aw_sld hsc dL_law__922 h (fun x3 h => ?_)
  refine aw_aload_n 0 dL_law__923 rfl rfl ?_
  refine aw_iload 4 dL_law__924 rfl ?_
  refine aw_iconst 4 dL_law__926 rfl ?_
  refine aw_iadd dL_law__927 ?_
  refine aw_sld hsc dL_law__928 h (fun x4 h => ?_)
  refine aw_aload_n 0 dL_law__929 rfl rfl ?_
  refine aw_iload 4 dL_law__930 rfl ?_
  refine aw_iconst 5 dL_law__932 rfl ?_
  refine aw_iadd dL_law__933 ?_
  refine aw_sld hsc dL_law__934 h (fun x5 h => ?_)
  refine aw_aload_n 0 dL_law__935 rfl rfl ?_
  refine aw_iload 4 dL_law__936 rfl ?_
  refine aw_bipush 6 dL_law__938 (by decide) ?_
  refine aw_iadd dL_law__940 ?_
  refine aw_sld hsc dL_law__941 h (fun x6 h => ?_)
  refine aw_aload_n 0 dL_law__942 rfl rfl ?_
  refine aw_iload 4 dL_law__943 rfl ?_
  refine aw_bipush 7 dL_law__945 (by decide) ?_
  refine aw_iadd dL_law__947 ?_
  refine aw_sld hsc dL_law__948 h (fun x7 h => ?_)
  refine aw_aload_n 3 dL_law__949 rfl rfl ?_
  refine aw_doneI (rest := []) h (fun r9 S9 hF => aw_runSH (As := [.ref v1, .int x1, .int x2, .int x3, .int x4, .int x5, .int x6, .int x7, .ref v3]) (rest := []) (L1_L_would hl0 N hF) wd_1015 wd_1013 wd_1014 wd_86 pd_L_would.2 rfl (ax_rmL rfl rfl) (ax_hfLw (by omega) (by omega)) (Nat.le_of_ble_eq_true rfl) rfl dL_law__950) (fun x9 T8 h => ?_)
  refine aw_istore [(5, .int x9), (0, .ref b9), (1, .ref v1), (2, .ref v2), (3, .ref v3), (4, .int v4)] dL_law__953 rfl rfl ?_
  refine aw_aload_n 3 dL_law__955 rfl rfl ?_
  refine aw_aload_n 1 dL_law__956 rfl rfl ?_
  refine aw_iload 5 dL_law__957 rfl ?_
  refine aw_iconst 1 dL_law__959 rfl ?_
  refine aw_iadd dL_law__960 ?_
  refine aw_sld hsc dL_law__961 h (fun x10 h => ?_)
  refine aw_aload_n 1 dL_law__962 rfl rfl ?_
  refine aw_iload 5 dL_law__963 rfl ?_
  refine aw_iconst 2 dL_law__965 rfl ?_
  refine aw_iadd dL_law__966 ?_
  refine aw_sld hsc dL_law__967 h (fun x11 h => ?_)
  refine aw_aload_n 1 dL_law__968 rfl rfl ?_
  refine aw_iload 5 dL_law__969 rfl ?_
  refine aw_iconst 3 dL_law__971 rfl ?_
  refine aw_iadd dL_law__972 ?_
  refine aw_sld hsc dL_law__973 h (fun x12 h => ?_)
  refine aw_aload_n 1 dL_law__974 rfl rfl ?_
  refine aw_iload 5 dL_law__975 rfl ?_
  refine aw_iconst 4 dL_law__977 rfl ?_
  refine aw_iadd dL_law__978 ?_
  refine aw_sld hsc dL_law__979 h (fun x13 h => ?_)
  refine aw_aload_n 1 dL_law__980 rfl rfl ?_
  refine aw_iload 5 dL_law__981 rfl ?_
  refine aw_iconst 5 dL_law__983 rfl ?_
  refine aw_iadd dL_law__984 ?_
  refine aw_sld hsc dL_law__985 h (fun x14 h => ?_)
  refine aw_aload_n 1 dL_law__986 rfl rfl ?_
  refine aw_iload 5 dL_law__987 rfl ?_
  refine aw_bipush 6 dL_law__989 (by decide) ?_
  refine aw_iadd dL_law__991 ?_
  refine aw_sld hsc dL_law__992 h (fun x15 h => ?_)
  refine aw_aload_n 1 dL_law__993 rfl rfl ?_
  refine aw_iload 5 dL_law__994 rfl ?_
  refine aw_bipush 7 dL_law__996 (by decide) ?_
  refine aw_iadd dL_law__998 ?_
  refine aw_sld hsc dL_law__999 h (fun x16 h => ?_)
  obtain ⟨hL17, h⟩ := ax_is_spec h
  refine aw_doneI (rest := []) h (fun r9 S9 hF => aw_runV (As := [.int x10, .int x11, .int x12, .int x13, .int x14, .int x15, .int x16]) (rest := []) (L1_X10_would N hF) axc10 hL17 wd_1673 wd_1670 wd_1671 wd_1672 wd_97 pd_X10_would rfl (ax_rmL rfl rfl) (ax_hfLw (by omega) (by omega)) (Nat.le_of_ble_eq_true rfl) rfl dL_law__1000) (fun x19 T18 h => ?_)
  refine aw_istore [(6, .int x19), (5, .int x9), (0, .ref b9), (1, .ref v1), (2, .ref v2), (3, .ref v3), (4, .int v4)] dL_law__1003 rfl rfl ?_
  refine aw_aload_n 4 dL_law__1005 rfl rfl ?_
  obtain ⟨hL20, h⟩ := ax_is_spec h
  refine aw_doneI (rest := []) h (fun r9 S9 hF => aw_runV (As := []) (rest := []) (L1_X10_thrown N hF) axc10 hL20 wd_1437 wd_1434 wd_1435 wd_1436 wd_97 pd_X10_thrown rfl (ax_rmL rfl rfl) (ax_hfLw (by omega) (by omega)) (Nat.le_of_ble_eq_true rfl) rfl dL_law__1006) (fun x22 T21 h => ?_)
  refine aw_iload 1 dL_law__1009 rfl ?_
  refine aw_icmp_eq 1016 dL_law__1011 (by decide) h (fun h => ?_) (fun h => ?_)
  · refine aw_iload 1 dL_law__1016 rfl ?_
    refine aw_if_ne 1033 dL_law__1018 (by decide) h (fun h => ?_) (fun h => ?_)
    · refine aw_env [(0, .ref b9), (1, .ref v1), (2, .ref v2), (3, .ref v3), (4, .int v4)] [2, 3, 4, 5, 6] rfl ?_
      exact L1_L_law__1033 hl0 N b9 L9 xs9 hsc n23 K23 hK23 v1 v2 v3 v4 T21 _ _ (by omega) (by omega) h
    · refine aw_aload_n 5 dL_law__1021 rfl rfl ?_
      refine aw_iconst 0 dL_law__1022 rfl ?_
      refine aw_lald dL_law__1023 h (fun x23 h => ?_)
      refine aw_iload 0 dL_law__1024 rfl ?_
      refine aw_i2l dL_law__1026 ?_
      refine aw_lcmp dL_law__1027 ?_
      refine aw_if_eq 1033 dL_law__1028 (by decide) h (fun h => ?_) (fun h => ?_)
      · refine aw_env [(0, .ref b9), (1, .ref v1), (2, .ref v2), (3, .ref v3), (4, .int v4)] [2, 3, 4, 5, 6] rfl ?_
        exact L1_L_law__1033 hl0 N b9 L9 xs9 hsc n23 K23 hK23 v1 v2 v3 v4 T21 _ _ (by omega) (by omega) h
      · refine aw_iconst 0 dL_law__1031 rfl ?_
        exact aw_lawret rfl rfl dL_law__1032 (by omega) (by omega) h
  · refine aw_iconst 0 dL_law__1014 rfl ?_
    exact aw_lawret rfl rfl dL_law__1015 (by omega) (by omega) h
theorem L1_L_law__1101 {g : AxG} {l : Launch} (hl0 : l.stackTraces = false) {S9 : AxS} (N : Nat) (b9 : Nat) (L9 : Nat) (xs9 : Nat → Int32) (hsc : g.2.2.2.2.2.1 = b9 ∧ g.2.2.2.2.2.2.1 = L9 ∧ g.2.2.2.2.2.2.2.1 = xs9) (n23 : Nat) (K23 : Nat → Nat → Nat → Int32 → AxS → Option (Int32 × AxS)) (hK23 : ∀ (v1 : Nat) (v2 : Nat) (v3 : Nat) (v4 : Int32) (S : AxS) (k9 n9 : Nat) (hk9 : k9 + 1 * (n23) ≤ 601024) (hn9 : n9 + 6 * (n23) ≤ 7293034), K23 v1 v2 v3 v4 S = some ((1, S9)) → AW g l room_1 mt_L_law_ (axLQ g) k9 n9 S 23 [(0, .ref b9), (1, .ref v1), (2, .ref v2), (3, .ref v3), (4, .int v4)] []) (v1 : Nat) (v2 : Nat) (v3 : Nat) (v4 : Int32) (S : AxS) (k9 n9 : Nat) (hk9 : k9 + 1 * (n23) ≤ 601024) (hn9 : n9 + 6 * (n23) ≤ 7293034) (h : F_L_law__1101 N L9 xs9 K23 v1 v2 v3 v4 S = some ((1, S9))) : AW g l room_1 mt_L_law_ (axLQ g) k9 n9 S 1101 [(0, .ref b9), (1, .ref v1), (2, .ref v2), (3, .ref v3), (4, .int v4)] [] := by
  unfold F_L_law__1101 at h
  refine aw_goto 2507 dL_law__1101 (by decide) ?_
  refine aw_env [(0, .ref b9), (1, .ref v1), (2, .ref v2), (3, .ref v3), (4, .int v4)] [0, 1, 2, 3, 4] rfl ?_
  exact L1_L_law__2507 hl0 N b9 L9 xs9 hsc n23 K23 hK23 v1 v2 v3 v4 S _ _ (by omega) (by omega) h
theorem L1_L_law__1036 {g : AxG} {l : Launch} (hl0 : l.stackTraces = false) {S9 : AxS} (N : Nat) (b9 : Nat) (L9 : Nat) (xs9 : Nat → Int32) (hsc : g.2.2.2.2.2.1 = b9 ∧ g.2.2.2.2.2.2.1 = L9 ∧ g.2.2.2.2.2.2.2.1 = xs9) (n23 : Nat) (K23 : Nat → Nat → Nat → Int32 → AxS → Option (Int32 × AxS)) (hK23 : ∀ (v1 : Nat) (v2 : Nat) (v3 : Nat) (v4 : Int32) (S : AxS) (k9 n9 : Nat) (hk9 : k9 + 1 * (n23) ≤ 601024) (hn9 : n9 + 6 * (n23) ≤ 7293034), K23 v1 v2 v3 v4 S = some ((1, S9)) → AW g l room_1 mt_L_law_ (axLQ g) k9 n9 S 23 [(0, .ref b9), (1, .ref v1), (2, .ref v2), (3, .ref v3), (4, .int v4)] []) (v1 : Nat) (v2 : Nat) (v3 : Nat) (v4 : Int32) (S : AxS) (k9 n9 : Nat) (hk9 : k9 + 1 * (n23 + 1) ≤ 601024) (hn9 : n9 + 6 * (n23 + 1) ≤ 7293034) (h : F_L_law__1036 N L9 xs9 K23 v1 v2 v3 v4 S = some ((1, S9))) : AW g l room_1 mt_L_law_ (axLQ g) k9 n9 S 1036 [(0, .ref b9), (1, .ref v1), (2, .ref v2), (3, .ref v3), (4, .int v4)] [] := by
  unfold F_L_law__1036 at h
  refine aw_aload_n 1 dL_law__1036 rfl rfl ?_
  refine aw_aload_n 0 dL_law__1037 rfl rfl ?_
  refine aw_iload 4 dL_law__1038 rfl ?_
  refine aw_iconst 1 dL_law__1040 rfl ?_
  refine aw_iadd dL_law__1041 ?_
  refine aw_sld hsc dL_law__1042 h (fun x1 h => ?_)
  refine aw_aload_n 0 dL_law__1043 rfl rfl ?_
  refine aw_iload 4 dL_law__1044 rfl ?_
  refine aw_iconst 2 dL_law__1046 rfl ?_
  refine aw_iadd dL_law__1047 ?_
  refine aw_sld hsc dL_law__1048 h (fun x2 h => ?_)
  refine aw_aload_n 3 dL_law__1049 rfl rfl ?_
  refine aw_doneI (rest := []) h (fun r9 S9 hF => aw_runSH (As := [.ref v1, .int x1, .int x2, .ref v3]) (rest := []) (L1_L_noise hl0 N hF) wd_1023 wd_1021 wd_1022 wd_86 pd_L_noise.2 rfl (ax_rmL rfl rfl) (ax_hfLw (by omega) (by omega)) (Nat.le_of_ble_eq_true rfl) rfl dL_law__1050) (fun x4 T3 h => ?_)
  refine aw_istore [(5, .int x4), (0, .ref b9), (1, .ref v1), (2, .ref v2), (3, .ref v3), (4, .int v4)] dL_law__1053 rfl rfl ?_
  refine aw_aload_n 3 dL_law__1055 rfl rfl ?_
  refine aw_aload_n 1 dL_law__1056 rfl rfl ?_
  refine aw_iload 5 dL_law__1057 rfl ?_
  refine aw_iconst 1 dL_law__1059 rfl ?_
  refine aw_iadd dL_law__1060 ?_
  refine aw_sld hsc dL_law__1061 h (fun x5 h => ?_)
  refine aw_aload_n 1 dL_law__1062 rfl rfl ?_
  refine aw_iload 5 dL_law__1063 rfl ?_
  refine aw_iconst 2 dL_law__1065 rfl ?_
  refine aw_iadd dL_law__1066 ?_
  refine aw_sld hsc dL_law__1067 h (fun x6 h => ?_)
  obtain ⟨hL7, h⟩ := ax_is_spec h
  refine aw_doneI (rest := []) h (fun r9 S9 hF => aw_runV (As := [.int x5, .int x6]) (rest := []) (L1_X10_noise N hF) axc10 hL7 wd_1677 wd_1674 wd_1675 wd_1676 wd_97 pd_X10_noise rfl (ax_rmL rfl rfl) (ax_hfLw (by omega) (by omega)) (Nat.le_of_ble_eq_true rfl) rfl dL_law__1068) (fun x9 T8 h => ?_)
  refine aw_istore [(6, .int x9), (5, .int x4), (0, .ref b9), (1, .ref v1), (2, .ref v2), (3, .ref v3), (4, .int v4)] dL_law__1071 rfl rfl ?_
  refine aw_aload_n 4 dL_law__1073 rfl rfl ?_
  obtain ⟨hL10, h⟩ := ax_is_spec h
  refine aw_doneI (rest := []) h (fun r9 S9 hF => aw_runV (As := []) (rest := []) (L1_X10_thrown N hF) axc10 hL10 wd_1437 wd_1434 wd_1435 wd_1436 wd_97 pd_X10_thrown rfl (ax_rmL rfl rfl) (ax_hfLw (by omega) (by omega)) (Nat.le_of_ble_eq_true rfl) rfl dL_law__1074) (fun x12 T11 h => ?_)
  refine aw_iload 1 dL_law__1077 rfl ?_
  refine aw_icmp_eq 1084 dL_law__1079 (by decide) h (fun h => ?_) (fun h => ?_)
  · refine aw_iload 1 dL_law__1084 rfl ?_
    refine aw_if_ne 1101 dL_law__1086 (by decide) h (fun h => ?_) (fun h => ?_)
    · refine aw_env [(0, .ref b9), (1, .ref v1), (2, .ref v2), (3, .ref v3), (4, .int v4)] [2, 3, 4, 5, 6] rfl ?_
      exact L1_L_law__1101 hl0 N b9 L9 xs9 hsc n23 K23 hK23 v1 v2 v3 v4 T11 _ _ (by omega) (by omega) h
    · refine aw_aload_n 5 dL_law__1089 rfl rfl ?_
      refine aw_iconst 0 dL_law__1090 rfl ?_
      refine aw_lald dL_law__1091 h (fun x13 h => ?_)
      refine aw_iload 0 dL_law__1092 rfl ?_
      refine aw_i2l dL_law__1094 ?_
      refine aw_lcmp dL_law__1095 ?_
      refine aw_if_eq 1101 dL_law__1096 (by decide) h (fun h => ?_) (fun h => ?_)
      · refine aw_env [(0, .ref b9), (1, .ref v1), (2, .ref v2), (3, .ref v3), (4, .int v4)] [2, 3, 4, 5, 6] rfl ?_
        exact L1_L_law__1101 hl0 N b9 L9 xs9 hsc n23 K23 hK23 v1 v2 v3 v4 T11 _ _ (by omega) (by omega) h
      · refine aw_iconst 0 dL_law__1099 rfl ?_
        exact aw_lawret rfl rfl dL_law__1100 (by omega) (by omega) h
  · refine aw_iconst 0 dL_law__1082 rfl ?_
    exact aw_lawret rfl rfl dL_law__1083 (by omega) (by omega) h
theorem L1_L_law__1169 {g : AxG} {l : Launch} (hl0 : l.stackTraces = false) {S9 : AxS} (N : Nat) (b9 : Nat) (L9 : Nat) (xs9 : Nat → Int32) (hsc : g.2.2.2.2.2.1 = b9 ∧ g.2.2.2.2.2.2.1 = L9 ∧ g.2.2.2.2.2.2.2.1 = xs9) (n23 : Nat) (K23 : Nat → Nat → Nat → Int32 → AxS → Option (Int32 × AxS)) (hK23 : ∀ (v1 : Nat) (v2 : Nat) (v3 : Nat) (v4 : Int32) (S : AxS) (k9 n9 : Nat) (hk9 : k9 + 1 * (n23) ≤ 601024) (hn9 : n9 + 6 * (n23) ≤ 7293034), K23 v1 v2 v3 v4 S = some ((1, S9)) → AW g l room_1 mt_L_law_ (axLQ g) k9 n9 S 23 [(0, .ref b9), (1, .ref v1), (2, .ref v2), (3, .ref v3), (4, .int v4)] []) (v1 : Nat) (v2 : Nat) (v3 : Nat) (v4 : Int32) (S : AxS) (k9 n9 : Nat) (hk9 : k9 + 1 * (n23) ≤ 601024) (hn9 : n9 + 6 * (n23) ≤ 7293034) (h : F_L_law__1169 N L9 xs9 K23 v1 v2 v3 v4 S = some ((1, S9))) : AW g l room_1 mt_L_law_ (axLQ g) k9 n9 S 1169 [(0, .ref b9), (1, .ref v1), (2, .ref v2), (3, .ref v3), (4, .int v4)] [] := by
  unfold F_L_law__1169 at h
  refine aw_goto 2507 dL_law__1169 (by decide) ?_
  refine aw_env [(0, .ref b9), (1, .ref v1), (2, .ref v2), (3, .ref v3), (4, .int v4)] [0, 1, 2, 3, 4] rfl ?_
  exact L1_L_law__2507 hl0 N b9 L9 xs9 hsc n23 K23 hK23 v1 v2 v3 v4 S _ _ (by omega) (by omega) h
theorem L1_L_law__1104 {g : AxG} {l : Launch} (hl0 : l.stackTraces = false) {S9 : AxS} (N : Nat) (b9 : Nat) (L9 : Nat) (xs9 : Nat → Int32) (hsc : g.2.2.2.2.2.1 = b9 ∧ g.2.2.2.2.2.2.1 = L9 ∧ g.2.2.2.2.2.2.2.1 = xs9) (n23 : Nat) (K23 : Nat → Nat → Nat → Int32 → AxS → Option (Int32 × AxS)) (hK23 : ∀ (v1 : Nat) (v2 : Nat) (v3 : Nat) (v4 : Int32) (S : AxS) (k9 n9 : Nat) (hk9 : k9 + 1 * (n23) ≤ 601024) (hn9 : n9 + 6 * (n23) ≤ 7293034), K23 v1 v2 v3 v4 S = some ((1, S9)) → AW g l room_1 mt_L_law_ (axLQ g) k9 n9 S 23 [(0, .ref b9), (1, .ref v1), (2, .ref v2), (3, .ref v3), (4, .int v4)] []) (v1 : Nat) (v2 : Nat) (v3 : Nat) (v4 : Int32) (S : AxS) (k9 n9 : Nat) (hk9 : k9 + 1 * (n23 + 1) ≤ 601024) (hn9 : n9 + 6 * (n23 + 1) ≤ 7293034) (h : F_L_law__1104 N L9 xs9 K23 v1 v2 v3 v4 S = some ((1, S9))) : AW g l room_1 mt_L_law_ (axLQ g) k9 n9 S 1104 [(0, .ref b9), (1, .ref v1), (2, .ref v2), (3, .ref v3), (4, .int v4)] [] := by
  unfold F_L_law__1104 at h
  refine aw_aload_n 1 dL_law__1104 rfl rfl ?_
  refine aw_aload_n 0 dL_law__1105 rfl rfl ?_
  refine aw_iload 4 dL_law__1106 rfl ?_
  refine aw_iconst 1 dL_law__1108 rfl ?_
  refine aw_iadd dL_law__1109 ?_
  refine aw_sld hsc dL_law__1110 h (fun x1 h => ?_)
  refine aw_aload_n 0 dL_law__1111 rfl rfl ?_
  refine aw_iload 4 dL_law__1112 rfl ?_
  refine aw_iconst 2 dL_law__1114 rfl ?_
  refine aw_iadd dL_law__1115 ?_
  refine aw_sld hsc dL_law__1116 h (fun x2 h => ?_)
  refine aw_aload_n 3 dL_law__1117 rfl rfl ?_
  refine aw_doneI (rest := []) h (fun r9 S9 hF => aw_runSH (As := [.ref v1, .int x1, .int x2, .ref v3]) (rest := []) (L1_L_ahead hl0 N hF) wd_1030 wd_1028 wd_1029 wd_86 pd_L_ahead.2 rfl (ax_rmL rfl rfl) (ax_hfLw (by omega) (by omega)) (Nat.le_of_ble_eq_true rfl) rfl dL_law__1118) (fun x4 T3 h => ?_)
  refine aw_istore [(5, .int x4), (0, .ref b9), (1, .ref v1), (2, .ref v2), (3, .ref v3), (4, .int v4)] dL_law__1121 rfl rfl ?_
  refine aw_aload_n 3 dL_law__1123 rfl rfl ?_
  refine aw_aload_n 1 dL_law__1124 rfl rfl ?_
  refine aw_iload 5 dL_law__1125 rfl ?_
  refine aw_iconst 1 dL_law__1127 rfl ?_
  refine aw_iadd dL_law__1128 ?_
  refine aw_sld hsc dL_law__1129 h (fun x5 h => ?_)
  refine aw_aload_n 1 dL_law__1130 rfl rfl ?_
  refine aw_iload 5 dL_law__1131 rfl ?_
  refine aw_iconst 2 dL_law__1133 rfl ?_
  refine aw_iadd dL_law__1134 ?_
  refine aw_sld hsc dL_law__1135 h (fun x6 h => ?_)
  obtain ⟨hL7, h⟩ := ax_is_spec h
  refine aw_doneI (rest := []) h (fun r9 S9 hF => aw_runV (As := [.int x5, .int x6]) (rest := []) (L1_X10_ahead N hF) axc10 hL7 wd_1693 wd_1690 wd_1691 wd_1692 wd_97 pd_X10_ahead rfl (ax_rmL rfl rfl) (ax_hfLw (by omega) (by omega)) (Nat.le_of_ble_eq_true rfl) rfl dL_law__1136) (fun x9 T8 h => ?_)
  refine aw_istore [(6, .int x9), (5, .int x4), (0, .ref b9), (1, .ref v1), (2, .ref v2), (3, .ref v3), (4, .int v4)] dL_law__1139 rfl rfl ?_
  refine aw_aload_n 4 dL_law__1141 rfl rfl ?_
  obtain ⟨hL10, h⟩ := ax_is_spec h
  refine aw_doneI (rest := []) h (fun r9 S9 hF => aw_runV (As := []) (rest := []) (L1_X10_thrown N hF) axc10 hL10 wd_1437 wd_1434 wd_1435 wd_1436 wd_97 pd_X10_thrown rfl (ax_rmL rfl rfl) (ax_hfLw (by omega) (by omega)) (Nat.le_of_ble_eq_true rfl) rfl dL_law__1142) (fun x12 T11 h => ?_)
  refine aw_iload 1 dL_law__1145 rfl ?_
  refine aw_icmp_eq 1152 dL_law__1147 (by decide) h (fun h => ?_) (fun h => ?_)
  · refine aw_iload 1 dL_law__1152 rfl ?_
    refine aw_if_ne 1169 dL_law__1154 (by decide) h (fun h => ?_) (fun h => ?_)
    · refine aw_env [(0, .ref b9), (1, .ref v1), (2, .ref v2), (3, .ref v3), (4, .int v4)] [2, 3, 4, 5, 6] rfl ?_
      exact L1_L_law__1169 hl0 N b9 L9 xs9 hsc n23 K23 hK23 v1 v2 v3 v4 T11 _ _ (by omega) (by omega) h
    · refine aw_aload_n 5 dL_law__1157 rfl rfl ?_
      refine aw_iconst 0 dL_law__1158 rfl ?_
      refine aw_lald dL_law__1159 h (fun x13 h => ?_)
      refine aw_iload 0 dL_law__1160 rfl ?_
      refine aw_i2l dL_law__1162 ?_
      refine aw_lcmp dL_law__1163 ?_
      refine aw_if_eq 1169 dL_law__1164 (by decide) h (fun h => ?_) (fun h => ?_)
      · refine aw_env [(0, .ref b9), (1, .ref v1), (2, .ref v2), (3, .ref v3), (4, .int v4)] [2, 3, 4, 5, 6] rfl ?_
        exact L1_L_law__1169 hl0 N b9 L9 xs9 hsc n23 K23 hK23 v1 v2 v3 v4 T11 _ _ (by omega) (by omega) h
      · refine aw_iconst 0 dL_law__1167 rfl ?_
        exact aw_lawret rfl rfl dL_law__1168 (by omega) (by omega) h
  · refine aw_iconst 0 dL_law__1150 rfl ?_
    exact aw_lawret rfl rfl dL_law__1151 (by omega) (by omega) h
theorem L1_L_law__1225 {g : AxG} {l : Launch} (hl0 : l.stackTraces = false) {S9 : AxS} (N : Nat) (b9 : Nat) (L9 : Nat) (xs9 : Nat → Int32) (hsc : g.2.2.2.2.2.1 = b9 ∧ g.2.2.2.2.2.2.1 = L9 ∧ g.2.2.2.2.2.2.2.1 = xs9) (n23 : Nat) (K23 : Nat → Nat → Nat → Int32 → AxS → Option (Int32 × AxS)) (hK23 : ∀ (v1 : Nat) (v2 : Nat) (v3 : Nat) (v4 : Int32) (S : AxS) (k9 n9 : Nat) (hk9 : k9 + 1 * (n23) ≤ 601024) (hn9 : n9 + 6 * (n23) ≤ 7293034), K23 v1 v2 v3 v4 S = some ((1, S9)) → AW g l room_1 mt_L_law_ (axLQ g) k9 n9 S 23 [(0, .ref b9), (1, .ref v1), (2, .ref v2), (3, .ref v3), (4, .int v4)] []) (v1 : Nat) (v2 : Nat) (v3 : Nat) (v4 : Int32) (S : AxS) (k9 n9 : Nat) (hk9 : k9 + 1 * (n23) ≤ 601024) (hn9 : n9 + 6 * (n23) ≤ 7293034) (h : F_L_law__1225 N L9 xs9 K23 v1 v2 v3 v4 S = some ((1, S9))) : AW g l room_1 mt_L_law_ (axLQ g) k9 n9 S 1225 [(0, .ref b9), (1, .ref v1), (2, .ref v2), (3, .ref v3), (4, .int v4)] [] := by
  unfold F_L_law__1225 at h
  refine aw_goto 2507 dL_law__1225 (by decide) ?_
  refine aw_env [(0, .ref b9), (1, .ref v1), (2, .ref v2), (3, .ref v3), (4, .int v4)] [0, 1, 2, 3, 4] rfl ?_
  exact L1_L_law__2507 hl0 N b9 L9 xs9 hsc n23 K23 hK23 v1 v2 v3 v4 S _ _ (by omega) (by omega) h
theorem L1_L_law__1172 {g : AxG} {l : Launch} (hl0 : l.stackTraces = false) {S9 : AxS} (N : Nat) (b9 : Nat) (L9 : Nat) (xs9 : Nat → Int32) (hsc : g.2.2.2.2.2.1 = b9 ∧ g.2.2.2.2.2.2.1 = L9 ∧ g.2.2.2.2.2.2.2.1 = xs9) (n23 : Nat) (K23 : Nat → Nat → Nat → Int32 → AxS → Option (Int32 × AxS)) (hK23 : ∀ (v1 : Nat) (v2 : Nat) (v3 : Nat) (v4 : Int32) (S : AxS) (k9 n9 : Nat) (hk9 : k9 + 1 * (n23) ≤ 601024) (hn9 : n9 + 6 * (n23) ≤ 7293034), K23 v1 v2 v3 v4 S = some ((1, S9)) → AW g l room_1 mt_L_law_ (axLQ g) k9 n9 S 23 [(0, .ref b9), (1, .ref v1), (2, .ref v2), (3, .ref v3), (4, .int v4)] []) (v1 : Nat) (v2 : Nat) (v3 : Nat) (v4 : Int32) (S : AxS) (k9 n9 : Nat) (hk9 : k9 + 1 * (n23 + 1) ≤ 601024) (hn9 : n9 + 6 * (n23 + 1) ≤ 7293034) (h : F_L_law__1172 N L9 xs9 K23 v1 v2 v3 v4 S = some ((1, S9))) : AW g l room_1 mt_L_law_ (axLQ g) k9 n9 S 1172 [(0, .ref b9), (1, .ref v1), (2, .ref v2), (3, .ref v3), (4, .int v4)] [] := by
  unfold F_L_law__1172 at h
  refine aw_aload_n 1 dL_law__1172 rfl rfl ?_
  refine aw_aload_n 0 dL_law__1173 rfl rfl ?_
  refine aw_iload 4 dL_law__1174 rfl ?_
  refine aw_iconst 1 dL_law__1176 rfl ?_
  refine aw_iadd dL_law__1177 ?_
  refine aw_sld hsc dL_law__1178 h (fun x1 h => ?_)
  refine aw_aload_n 3 dL_law__1179 rfl rfl ?_
  refine aw_doneI (rest := []) h (fun r9 S9 hF => aw_runSH (As := [.ref v1, .int x1, .ref v3]) (rest := []) (L1_L_loudest hl0 N hF) wd_1037 wd_1035 wd_1036 wd_86 pd_L_loudest.2 rfl (ax_rmL rfl rfl) (ax_hfLw (by omega) (by omega)) (Nat.le_of_ble_eq_true rfl) rfl dL_law__1180) (fun x3 T2 h => ?_)
  refine aw_istore [(5, .int x3), (0, .ref b9), (1, .ref v1), (2, .ref v2), (3, .ref v3), (4, .int v4)] dL_law__1183 rfl rfl ?_
  refine aw_aload_n 3 dL_law__1185 rfl rfl ?_
  refine aw_aload_n 1 dL_law__1186 rfl rfl ?_
  refine aw_iload 5 dL_law__1187 rfl ?_
  refine aw_iconst 1 dL_law__1189 rfl ?_
  refine aw_iadd dL_law__1190 ?_
  refine aw_sld hsc dL_law__1191 h (fun x4 h => ?_)
  obtain ⟨hL5, h⟩ := ax_is_spec h
  refine aw_doneI (rest := []) h (fun r9 S9 hF => aw_runV (As := [.int x4]) (rest := []) (L1_X10_loudest N hF) axc10 hL5 wd_1697 wd_1694 wd_1695 wd_1696 wd_97 pd_X10_loudest rfl (ax_rmL rfl rfl) (ax_hfLw (by omega) (by omega)) (Nat.le_of_ble_eq_true rfl) rfl dL_law__1192) (fun x7 T6 h => ?_)
  refine aw_istore [(6, .int x7), (5, .int x3), (0, .ref b9), (1, .ref v1), (2, .ref v2), (3, .ref v3), (4, .int v4)] dL_law__1195 rfl rfl ?_
  refine aw_aload_n 4 dL_law__1197 rfl rfl ?_
  obtain ⟨hL8, h⟩ := ax_is_spec h
  refine aw_doneI (rest := []) h (fun r9 S9 hF => aw_runV (As := []) (rest := []) (L1_X10_thrown N hF) axc10 hL8 wd_1437 wd_1434 wd_1435 wd_1436 wd_97 pd_X10_thrown rfl (ax_rmL rfl rfl) (ax_hfLw (by omega) (by omega)) (Nat.le_of_ble_eq_true rfl) rfl dL_law__1198) (fun x10 T9 h => ?_)
  refine aw_iload 1 dL_law__1201 rfl ?_
  refine aw_icmp_eq 1208 dL_law__1203 (by decide) h (fun h => ?_) (fun h => ?_)
  · refine aw_iload 1 dL_law__1208 rfl ?_
    refine aw_if_ne 1225 dL_law__1210 (by decide) h (fun h => ?_) (fun h => ?_)
    · refine aw_env [(0, .ref b9), (1, .ref v1), (2, .ref v2), (3, .ref v3), (4, .int v4)] [2, 3, 4, 5, 6] rfl ?_
      exact L1_L_law__1225 hl0 N b9 L9 xs9 hsc n23 K23 hK23 v1 v2 v3 v4 T9 _ _ (by omega) (by omega) h
    · refine aw_aload_n 5 dL_law__1213 rfl rfl ?_
      refine aw_iconst 0 dL_law__1214 rfl ?_
      refine aw_lald dL_law__1215 h (fun x11 h => ?_)
      refine aw_iload 0 dL_law__1216 rfl ?_
      refine aw_i2l dL_law__1218 ?_
      refine aw_lcmp dL_law__1219 ?_
      refine aw_if_eq 1225 dL_law__1220 (by decide) h (fun h => ?_) (fun h => ?_)
      · refine aw_env [(0, .ref b9), (1, .ref v1), (2, .ref v2), (3, .ref v3), (4, .int v4)] [2, 3, 4, 5, 6] rfl ?_
        exact L1_L_law__1225 hl0 N b9 L9 xs9 hsc n23 K23 hK23 v1 v2 v3 v4 T9 _ _ (by omega) (by omega) h
      · refine aw_iconst 0 dL_law__1223 rfl ?_
        exact aw_lawret rfl rfl dL_law__1224 (by omega) (by omega) h
  · refine aw_iconst 0 dL_law__1206 rfl ?_
    exact aw_lawret rfl rfl dL_law__1207 (by omega) (by omega) h
theorem L1_L_law__1281 {g : AxG} {l : Launch} (hl0 : l.stackTraces = false) {S9 : AxS} (N : Nat) (b9 : Nat) (L9 : Nat) (xs9 : Nat → Int32) (hsc : g.2.2.2.2.2.1 = b9 ∧ g.2.2.2.2.2.2.1 = L9 ∧ g.2.2.2.2.2.2.2.1 = xs9) (n23 : Nat) (K23 : Nat → Nat → Nat → Int32 → AxS → Option (Int32 × AxS)) (hK23 : ∀ (v1 : Nat) (v2 : Nat) (v3 : Nat) (v4 : Int32) (S : AxS) (k9 n9 : Nat) (hk9 : k9 + 1 * (n23) ≤ 601024) (hn9 : n9 + 6 * (n23) ≤ 7293034), K23 v1 v2 v3 v4 S = some ((1, S9)) → AW g l room_1 mt_L_law_ (axLQ g) k9 n9 S 23 [(0, .ref b9), (1, .ref v1), (2, .ref v2), (3, .ref v3), (4, .int v4)] []) (v1 : Nat) (v2 : Nat) (v3 : Nat) (v4 : Int32) (S : AxS) (k9 n9 : Nat) (hk9 : k9 + 1 * (n23) ≤ 601024) (hn9 : n9 + 6 * (n23) ≤ 7293034) (h : F_L_law__1281 N L9 xs9 K23 v1 v2 v3 v4 S = some ((1, S9))) : AW g l room_1 mt_L_law_ (axLQ g) k9 n9 S 1281 [(0, .ref b9), (1, .ref v1), (2, .ref v2), (3, .ref v3), (4, .int v4)] [] := by
  unfold F_L_law__1281 at h
  refine aw_goto 2507 dL_law__1281 (by decide) ?_
  refine aw_env [(0, .ref b9), (1, .ref v1), (2, .ref v2), (3, .ref v3), (4, .int v4)] [0, 1, 2, 3, 4] rfl ?_
  exact L1_L_law__2507 hl0 N b9 L9 xs9 hsc n23 K23 hK23 v1 v2 v3 v4 S _ _ (by omega) (by omega) h
theorem L1_L_law__1228 {g : AxG} {l : Launch} (hl0 : l.stackTraces = false) {S9 : AxS} (N : Nat) (b9 : Nat) (L9 : Nat) (xs9 : Nat → Int32) (hsc : g.2.2.2.2.2.1 = b9 ∧ g.2.2.2.2.2.2.1 = L9 ∧ g.2.2.2.2.2.2.2.1 = xs9) (n23 : Nat) (K23 : Nat → Nat → Nat → Int32 → AxS → Option (Int32 × AxS)) (hK23 : ∀ (v1 : Nat) (v2 : Nat) (v3 : Nat) (v4 : Int32) (S : AxS) (k9 n9 : Nat) (hk9 : k9 + 1 * (n23) ≤ 601024) (hn9 : n9 + 6 * (n23) ≤ 7293034), K23 v1 v2 v3 v4 S = some ((1, S9)) → AW g l room_1 mt_L_law_ (axLQ g) k9 n9 S 23 [(0, .ref b9), (1, .ref v1), (2, .ref v2), (3, .ref v3), (4, .int v4)] []) (v1 : Nat) (v2 : Nat) (v3 : Nat) (v4 : Int32) (S : AxS) (k9 n9 : Nat) (hk9 : k9 + 1 * (n23 + 1) ≤ 601024) (hn9 : n9 + 6 * (n23 + 1) ≤ 7293034) (h : F_L_law__1228 N L9 xs9 K23 v1 v2 v3 v4 S = some ((1, S9))) : AW g l room_1 mt_L_law_ (axLQ g) k9 n9 S 1228 [(0, .ref b9), (1, .ref v1), (2, .ref v2), (3, .ref v3), (4, .int v4)] [] := by
  unfold F_L_law__1228 at h
  refine aw_aload_n 1 dL_law__1228 rfl rfl ?_
  refine aw_aload_n 0 dL_law__1229 rfl rfl ?_
  refine aw_iload 4 dL_law__1230 rfl ?_
  refine aw_iconst 1 dL_law__1232 rfl ?_
  refine aw_iadd dL_law__1233 ?_
  refine aw_sld hsc dL_law__1234 h (fun x1 h => ?_)
  refine aw_aload_n 3 dL_law__1235 rfl rfl ?_
  refine aw_doneI (rest := []) h (fun r9 S9 hF => aw_runSH (As := [.ref v1, .int x1, .ref v3]) (rest := []) (L1_L_hush hl0 N hF) wd_1044 wd_1042 wd_1043 wd_86 pd_L_hush.2 rfl (ax_rmL rfl rfl) (ax_hfLw (by omega) (by omega)) (Nat.le_of_ble_eq_true rfl) rfl dL_law__1236) (fun x3 T2 h => ?_)
  refine aw_istore [(5, .int x3), (0, .ref b9), (1, .ref v1), (2, .ref v2), (3, .ref v3), (4, .int v4)] dL_law__1239 rfl rfl ?_
  refine aw_aload_n 3 dL_law__1241 rfl rfl ?_
  refine aw_aload_n 1 dL_law__1242 rfl rfl ?_
  refine aw_iload 5 dL_law__1243 rfl ?_
  refine aw_iconst 1 dL_law__1245 rfl ?_
  refine aw_iadd dL_law__1246 ?_
  refine aw_sld hsc dL_law__1247 h (fun x4 h => ?_)
  obtain ⟨hL5, h⟩ := ax_is_spec h
  refine aw_doneI (rest := []) h (fun r9 S9 hF => aw_runV (As := [.int x4]) (rest := []) (L1_X10_hush N hF) axc10 hL5 wd_1701 wd_1698 wd_1699 wd_1700 wd_97 pd_X10_hush rfl (ax_rmL rfl rfl) (ax_hfLw (by omega) (by omega)) (Nat.le_of_ble_eq_true rfl) rfl dL_law__1248) (fun x7 T6 h => ?_)
  refine aw_istore [(6, .int x7), (5, .int x3), (0, .ref b9), (1, .ref v1), (2, .ref v2), (3, .ref v3), (4, .int v4)] dL_law__1251 rfl rfl ?_
  refine aw_aload_n 4 dL_law__1253 rfl rfl ?_
  obtain ⟨hL8, h⟩ := ax_is_spec h
  refine aw_doneI (rest := []) h (fun r9 S9 hF => aw_runV (As := []) (rest := []) (L1_X10_thrown N hF) axc10 hL8 wd_1437 wd_1434 wd_1435 wd_1436 wd_97 pd_X10_thrown rfl (ax_rmL rfl rfl) (ax_hfLw (by omega) (by omega)) (Nat.le_of_ble_eq_true rfl) rfl dL_law__1254) (fun x10 T9 h => ?_)
  refine aw_iload 1 dL_law__1257 rfl ?_
  refine aw_icmp_eq 1264 dL_law__1259 (by decide) h (fun h => ?_) (fun h => ?_)
  · refine aw_iload 1 dL_law__1264 rfl ?_
    refine aw_if_ne 1281 dL_law__1266 (by decide) h (fun h => ?_) (fun h => ?_)
    · refine aw_env [(0, .ref b9), (1, .ref v1), (2, .ref v2), (3, .ref v3), (4, .int v4)] [2, 3, 4, 5, 6] rfl ?_
      exact L1_L_law__1281 hl0 N b9 L9 xs9 hsc n23 K23 hK23 v1 v2 v3 v4 T9 _ _ (by omega) (by omega) h
    · refine aw_aload_n 5 dL_law__1269 rfl rfl ?_
      refine aw_iconst 0 dL_law__1270 rfl ?_
      refine aw_lald dL_law__1271 h (fun x11 h => ?_)
      refine aw_iload 0 dL_law__1272 rfl ?_
      refine aw_i2l dL_law__1274 ?_
      refine aw_lcmp dL_law__1275 ?_
      refine aw_if_eq 1281 dL_law__1276 (by decide) h (fun h => ?_) (fun h => ?_)
      · refine aw_env [(0, .ref b9), (1, .ref v1), (2, .ref v2), (3, .ref v3), (4, .int v4)] [2, 3, 4, 5, 6] rfl ?_
        exact L1_L_law__1281 hl0 N b9 L9 xs9 hsc n23 K23 hK23 v1 v2 v3 v4 T9 _ _ (by omega) (by omega) h
      · refine aw_iconst 0 dL_law__1279 rfl ?_
        exact aw_lawret rfl rfl dL_law__1280 (by omega) (by omega) h
  · refine aw_iconst 0 dL_law__1262 rfl ?_
    exact aw_lawret rfl rfl dL_law__1263 (by omega) (by omega) h
theorem L1_L_law__1373 {g : AxG} {l : Launch} (hl0 : l.stackTraces = false) {S9 : AxS} (N : Nat) (b9 : Nat) (L9 : Nat) (xs9 : Nat → Int32) (hsc : g.2.2.2.2.2.1 = b9 ∧ g.2.2.2.2.2.2.1 = L9 ∧ g.2.2.2.2.2.2.2.1 = xs9) (n23 : Nat) (K23 : Nat → Nat → Nat → Int32 → AxS → Option (Int32 × AxS)) (hK23 : ∀ (v1 : Nat) (v2 : Nat) (v3 : Nat) (v4 : Int32) (S : AxS) (k9 n9 : Nat) (hk9 : k9 + 1 * (n23) ≤ 601024) (hn9 : n9 + 6 * (n23) ≤ 7293034), K23 v1 v2 v3 v4 S = some ((1, S9)) → AW g l room_1 mt_L_law_ (axLQ g) k9 n9 S 23 [(0, .ref b9), (1, .ref v1), (2, .ref v2), (3, .ref v3), (4, .int v4)] []) (v1 : Nat) (v2 : Nat) (v3 : Nat) (v4 : Int32) (S : AxS) (k9 n9 : Nat) (hk9 : k9 + 1 * (n23) ≤ 601024) (hn9 : n9 + 6 * (n23) ≤ 7293034) (h : F_L_law__1373 N L9 xs9 K23 v1 v2 v3 v4 S = some ((1, S9))) : AW g l room_1 mt_L_law_ (axLQ g) k9 n9 S 1373 [(0, .ref b9), (1, .ref v1), (2, .ref v2), (3, .ref v3), (4, .int v4)] [] := by
  unfold F_L_law__1373 at h
  refine aw_goto 2507 dL_law__1373 (by decide) ?_
  refine aw_env [(0, .ref b9), (1, .ref v1), (2, .ref v2), (3, .ref v3), (4, .int v4)] [0, 1, 2, 3, 4] rfl ?_
  exact L1_L_law__2507 hl0 N b9 L9 xs9 hsc n23 K23 hK23 v1 v2 v3 v4 S _ _ (by omega) (by omega) h
theorem L1_L_law__1284 {g : AxG} {l : Launch} (hl0 : l.stackTraces = false) {S9 : AxS} (N : Nat) (b9 : Nat) (L9 : Nat) (xs9 : Nat → Int32) (hsc : g.2.2.2.2.2.1 = b9 ∧ g.2.2.2.2.2.2.1 = L9 ∧ g.2.2.2.2.2.2.2.1 = xs9) (n23 : Nat) (K23 : Nat → Nat → Nat → Int32 → AxS → Option (Int32 × AxS)) (hK23 : ∀ (v1 : Nat) (v2 : Nat) (v3 : Nat) (v4 : Int32) (S : AxS) (k9 n9 : Nat) (hk9 : k9 + 1 * (n23) ≤ 601024) (hn9 : n9 + 6 * (n23) ≤ 7293034), K23 v1 v2 v3 v4 S = some ((1, S9)) → AW g l room_1 mt_L_law_ (axLQ g) k9 n9 S 23 [(0, .ref b9), (1, .ref v1), (2, .ref v2), (3, .ref v3), (4, .int v4)] []) (v1 : Nat) (v2 : Nat) (v3 : Nat) (v4 : Int32) (S : AxS) (k9 n9 : Nat) (hk9 : k9 + 1 * (n23 + 1) ≤ 601024) (hn9 : n9 + 6 * (n23 + 1) ≤ 7293034) (h : F_L_law__1284 N L9 xs9 K23 v1 v2 v3 v4 S = some ((1, S9))) : AW g l room_1 mt_L_law_ (axLQ g) k9 n9 S 1284 [(0, .ref b9), (1, .ref v1), (2, .ref v2), (3, .ref v3), (4, .int v4)] [] := by
  unfold F_L_law__1284 at h
  refine aw_aload_n 1 dL_law__1284 rfl rfl ?_
  refine aw_aload_n 0 dL_law__1285 rfl rfl ?_
  refine aw_iload 4 dL_law__1286 rfl ?_
  refine aw_iconst 1 dL_law__1288 rfl ?_
  refine aw_iadd dL_law__1289 ?_
  refine aw_sld hsc dL_law__1290 h (fun x1 h => ?_)
  refine aw_aload_n 0 dL_law__1291 rfl rfl ?_
  refine aw_iload 4 dL_law__1292 rfl ?_
  refine aw_iconst 2 dL_law__1294 rfl ?_
  refine aw_iadd dL_law__1295 ?_
  refine aw_sld hsc dL_law__1296 h (fun x2 h => ?_)
  refine aw_aload_n 0 dL_law__1297 rfl rfl ?_
  refine aw_iload 4 dL_law__1298 rfl ?_
  refine aw_iconst 3 dL_law__1300 rfl ?_
  refine aw_iadd dL_law__1301 ?_
  refine aw_sld hsc dL_law__1302 h (fun x3 h => ?_)
  refine aw_aload_n 0 dL_law__1303 rfl rfl ?_
  refine aw_iload 4 dL_law__1304 rfl ?_
  refine aw_iconst 4 dL_law__1306 rfl ?_
  refine aw_iadd dL_law__1307 ?_
  refine aw_sld hsc dL_law__1308 h (fun x4 h => ?_)
  refine aw_aload_n 3 dL_law__1309 rfl rfl ?_
  refine aw_doneI (rest := []) h (fun r9 S9 hF => aw_runSH (As := [.ref v1, .int x1, .int x2, .int x3, .int x4, .ref v3]) (rest := []) (L1_L_plan hl0 N hF) wd_1051 wd_1049 wd_1050 wd_86 pd_L_plan.2 rfl (ax_rmL rfl rfl) (ax_hfLw (by omega) (by omega)) (Nat.le_of_ble_eq_true rfl) rfl dL_law__1310) (fun x6 T5 h => ?_)
  refine aw_istore [(5, .int x6), (0, .ref b9), (1, .ref v1), (2, .ref v2), (3, .ref v3), (4, .int v4)] dL_law__1313 rfl rfl ?_
  refine aw_aload_n 3 dL_law__1315 rfl rfl ?_
  refine aw_aload_n 1 dL_law__1316 rfl rfl ?_
  refine aw_iload 5 dL_law__1317 rfl ?_
  refine aw_iconst 1 dL_law__1319 rfl ?_
  refine aw_iadd dL_law__1320 ?_
  refine aw_sld hsc dL_law__1321 h (fun x7 h => ?_)
  refine aw_aload_n 1 dL_law__1322 rfl rfl ?_
  refine aw_iload 5 dL_law__1323 rfl ?_
  refine aw_iconst 2 dL_law__1325 rfl ?_
  refine aw_iadd dL_law__1326 ?_
  refine aw_sld hsc dL_law__1327 h (fun x8 h => ?_)
  refine aw_aload_n 1 dL_law__1328 rfl rfl ?_
  refine aw_iload 5 dL_law__1329 rfl ?_
  refine aw_iconst 3 dL_law__1331 rfl ?_
  refine aw_iadd dL_law__1332 ?_
  refine aw_sld hsc dL_law__1333 h (fun x9 h => ?_)
  refine aw_aload_n 1 dL_law__1334 rfl rfl ?_
  refine aw_iload 5 dL_law__1335 rfl ?_
  refine aw_iconst 4 dL_law__1337 rfl ?_
  refine aw_iadd dL_law__1338 ?_
  refine aw_sld hsc dL_law__1339 h (fun x10 h => ?_)
  obtain ⟨hL11, h⟩ := ax_is_spec h
  refine aw_doneI (rest := []) h (fun r9 S9 hF => aw_runV (As := [.int x7, .int x8, .int x9, .int x10]) (rest := []) (L1_X10_plan N hF) axc10 hL11 wd_1705 wd_1702 wd_1703 wd_1704 wd_97 pd_X10_plan rfl (ax_rmL rfl rfl) (ax_hfLw (by omega) (by omega)) (Nat.le_of_ble_eq_true rfl) rfl dL_law__1340) (fun x13 T12 h => ?_)
  refine aw_istore [(6, .int x13), (5, .int x6), (0, .ref b9), (1, .ref v1), (2, .ref v2), (3, .ref v3), (4, .int v4)] dL_law__1343 rfl rfl ?_
  refine aw_aload_n 4 dL_law__1345 rfl rfl ?_
  obtain ⟨hL14, h⟩ := ax_is_spec h
  refine aw_doneI (rest := []) h (fun r9 S9 hF => aw_runV (As := []) (rest := []) (L1_X10_thrown N hF) axc10 hL14 wd_1437 wd_1434 wd_1435 wd_1436 wd_97 pd_X10_thrown rfl (ax_rmL rfl rfl) (ax_hfLw (by omega) (by omega)) (Nat.le_of_ble_eq_true rfl) rfl dL_law__1346) (fun x16 T15 h => ?_)
  refine aw_iload 1 dL_law__1349 rfl ?_
  refine aw_icmp_eq 1356 dL_law__1351 (by decide) h (fun h => ?_) (fun h => ?_)
  · refine aw_iload 1 dL_law__1356 rfl ?_
    refine aw_if_ne 1373 dL_law__1358 (by decide) h (fun h => ?_) (fun h => ?_)
    · refine aw_env [(0, .ref b9), (1, .ref v1), (2, .ref v2), (3, .ref v3), (4, .int v4)] [2, 3, 4, 5, 6] rfl ?_
      exact L1_L_law__1373 hl0 N b9 L9 xs9 hsc n23 K23 hK23 v1 v2 v3 v4 T15 _ _ (by omega) (by omega) h
    · refine aw_aload_n 5 dL_law__1361 rfl rfl ?_
      refine aw_iconst 0 dL_law__1362 rfl ?_
      refine aw_lald dL_law__1363 h (fun x17 h => ?_)
      refine aw_iload 0 dL_law__1364 rfl ?_
      refine aw_i2l dL_law__1366 ?_
      refine aw_lcmp dL_law__1367 ?_
      refine aw_if_eq 1373 dL_law__1368 (by decide) h (fun h => ?_) (fun h => ?_)
      · refine aw_env [(0, .ref b9), (1, .ref v1), (2, .ref v2), (3, .ref v3), (4, .int v4)] [2, 3, 4, 5, 6] rfl ?_
        exact L1_L_law__1373 hl0 N b9 L9 xs9 hsc n23 K23 hK23 v1 v2 v3 v4 T15 _ _ (by omega) (by omega) h
      · refine aw_iconst 0 dL_law__1371 rfl ?_
        exact aw_lawret rfl rfl dL_law__1372 (by omega) (by omega) h
  · refine aw_iconst 0 dL_law__1354 rfl ?_
    exact aw_lawret rfl rfl dL_law__1355 (by omega) (by omega) h
