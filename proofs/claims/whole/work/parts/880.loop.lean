/-! the law: its script, eight numbers a call -/
section
variable {b m v3 N L i : Nat} {xs : Nat → Int32} {S : AxS}
theorem sl_0 (hi : i + 8 ≤ L) (hL : L ≤ 4096) {α : Type} (K : Int32 → Option α) : ax_sld L xs (Int32.ofNat i) K = K (xs (i + 0)) := by
  rw [Nat.add_zero]
  unfold ax_sld
  rw [qi_tn (by omega), if_neg (fun h => h.elim (qi_nn (by omega)) (by omega))]
theorem sl_1 (hi : i + 8 ≤ L) (hL : L ≤ 4096) {α : Type} (K : Int32 → Option α) : ax_sld L xs (Int32.ofNat i + 1) K = K (xs (i + 1)) := by
  rw [show Int32.ofNat i + 1 = Int32.ofNat (i + 1) from qi_add i 1]
  unfold ax_sld
  rw [qi_tn (by omega), if_neg (fun h => h.elim (qi_nn (by omega)) (by omega))]
theorem sl_2 (hi : i + 8 ≤ L) (hL : L ≤ 4096) {α : Type} (K : Int32 → Option α) : ax_sld L xs (Int32.ofNat i + 2) K = K (xs (i + 2)) := by
  rw [show Int32.ofNat i + 2 = Int32.ofNat (i + 2) from qi_add i 2]
  unfold ax_sld
  rw [qi_tn (by omega), if_neg (fun h => h.elim (qi_nn (by omega)) (by omega))]
theorem sl_3 (hi : i + 8 ≤ L) (hL : L ≤ 4096) {α : Type} (K : Int32 → Option α) : ax_sld L xs (Int32.ofNat i + 3) K = K (xs (i + 3)) := by
  rw [show Int32.ofNat i + 3 = Int32.ofNat (i + 3) from qi_add i 3]
  unfold ax_sld
  rw [qi_tn (by omega), if_neg (fun h => h.elim (qi_nn (by omega)) (by omega))]
theorem sl_4 (hi : i + 8 ≤ L) (hL : L ≤ 4096) {α : Type} (K : Int32 → Option α) : ax_sld L xs (Int32.ofNat i + 4) K = K (xs (i + 4)) := by
  rw [show Int32.ofNat i + 4 = Int32.ofNat (i + 4) from qi_add i 4]
  unfold ax_sld
  rw [qi_tn (by omega), if_neg (fun h => h.elim (qi_nn (by omega)) (by omega))]
theorem sl_5 (hi : i + 8 ≤ L) (hL : L ≤ 4096) {α : Type} (K : Int32 → Option α) : ax_sld L xs (Int32.ofNat i + 5) K = K (xs (i + 5)) := by
  rw [show Int32.ofNat i + 5 = Int32.ofNat (i + 5) from qi_add i 5]
  unfold ax_sld
  rw [qi_tn (by omega), if_neg (fun h => h.elim (qi_nn (by omega)) (by omega))]
theorem sl_6 (hi : i + 8 ≤ L) (hL : L ≤ 4096) {α : Type} (K : Int32 → Option α) : ax_sld L xs (Int32.ofNat i + 6) K = K (xs (i + 6)) := by
  rw [show Int32.ofNat i + 6 = Int32.ofNat (i + 6) from qi_add i 6]
  unfold ax_sld
  rw [qi_tn (by omega), if_neg (fun h => h.elim (qi_nn (by omega)) (by omega))]
theorem sl_7 (hi : i + 8 ≤ L) (hL : L ≤ 4096) {α : Type} (K : Int32 → Option α) : ax_sld L xs (Int32.ofNat i + 7) K = K (xs (i + 7)) := by
  rw [show Int32.ofNat i + 7 = Int32.ofNat (i + 7) from qi_add i 7]
  unfold ax_sld
  rw [qi_tn (by omega), if_neg (fun h => h.elim (qi_nn (by omega)) (by omega))]
variable {K23 : Nat → Nat → Nat → Int32 → AxS → Option (Int32 × AxS)}
theorem sg_208 (hN : 20000 < N) (hi : i + 8 ≤ L) (hL : L ≤ 4096) (h : GI b m v3 S) : ∃ S1, GI b m v3 S1 ∧ F_L_law__208 N L xs K23 b m v3 (Int32.ofNat i) S = K23 b m v3 (Int32.ofNat i + 8) S1 := by
  unfold F_L_law__208  F_L_law__2507
  simp only [sl_1 hi hL, sl_2 hi hL, sl_3 hi hL, sl_4 hi hL, sl_5 hi hL]
  exact seg_D (α := Unit) (gd_feed (by omega) (xs (i + 1)) (xs (i + 2)) (xs (i + 3)) (xs (i + 4)) (xs (i + 5))) h (fun T => K23 b m v3 (Int32.ofNat i + 8) T)
theorem sg_281 (hN : 20000 < N) (hi : i + 8 ≤ L) (hL : L ≤ 4096) (h : GI b m v3 S) : ∃ S1, GI b m v3 S1 ∧ F_L_law__281 N L xs K23 b m v3 (Int32.ofNat i) S = K23 b m v3 (Int32.ofNat i + 8) S1 := by
  unfold F_L_law__281 F_L_law__334 F_L_law__2507 F_L_abbey
  simp only [sl_1 hi hL]
  exact seg_T (gt_abbey (by omega) (xs (i + 1))) h Int32.toInt64 _ q_h0 (fun T => K23 b m v3 (Int32.ofNat i + 8) T)
theorem sg_337 (hN : 20000 < N) (hi : i + 8 ≤ L) (hL : L ≤ 4096) (h : GI b m v3 S) : ∃ S1, GI b m v3 S1 ∧ F_L_law__337 N L xs K23 b m v3 (Int32.ofNat i) S = K23 b m v3 (Int32.ofNat i + 8) S1 := by
  unfold F_L_law__337 F_L_law__390 F_L_law__2507 F_L_law
  simp only [sl_1 hi hL]
  exact seg_T (gt_law (by omega) (xs (i + 1))) h Int32.toInt64 _ q_h0 (fun T => K23 b m v3 (Int32.ofNat i + 8) T)
theorem sg_393 (hN : 20000 < N) (hi : i + 8 ≤ L) (hL : L ≤ 4096) (h : GI b m v3 S) : ∃ S1, GI b m v3 S1 ∧ F_L_law__393 N L xs K23 b m v3 (Int32.ofNat i) S = K23 b m v3 (Int32.ofNat i + 8) S1 := by
  unfold F_L_law__393 F_L_law__446 F_L_law__2507 F_L_work
  simp only [sl_1 hi hL]
  exact seg_T (gt_work (by omega) (xs (i + 1))) h Int32.toInt64 _ q_h0 (fun T => K23 b m v3 (Int32.ofNat i + 8) T)
theorem sg_449 (hN : 20000 < N) (hi : i + 8 ≤ L) (hL : L ≤ 4096) (h : GI b m v3 S) : ∃ S1, GI b m v3 S1 ∧ F_L_law__449 N L xs K23 b m v3 (Int32.ofNat i) S = K23 b m v3 (Int32.ofNat i + 8) S1 := by
  unfold F_L_law__449 F_L_law__502 F_L_law__2507 F_L_book
  simp only [sl_1 hi hL]
  exact seg_T (gt_book (by omega) (xs (i + 1))) h Int32.toInt64 _ q_h0 (fun T => K23 b m v3 (Int32.ofNat i + 8) T)
theorem sg_505 (hN : 20000 < N) (hi : i + 8 ≤ L) (hL : L ≤ 4096) (h : GI b m v3 S) : ∃ S1, GI b m v3 S1 ∧ F_L_law__505 N L xs K23 b m v3 (Int32.ofNat i) S = K23 b m v3 (Int32.ofNat i + 8) S1 := by
  unfold F_L_law__505  F_L_law__2507
  exact seg_D (α := Unit) (gd_fault (by omega)) h (fun T => K23 b m v3 (Int32.ofNat i + 8) T)
theorem sg_518 (hN : 20000 < N) (hi : i + 8 ≤ L) (hL : L ≤ 4096) (h : GI b m v3 S) : ∃ S1, GI b m v3 S1 ∧ F_L_law__518 N L xs K23 b m v3 (Int32.ofNat i) S = K23 b m v3 (Int32.ofNat i + 8) S1 := by
  unfold F_L_law__518  F_L_law__2507
  exact seg_D (α := Unit) (gd_undo (by omega)) h (fun T => K23 b m v3 (Int32.ofNat i + 8) T)
theorem sg_531 (hN : 20000 < N) (hi : i + 8 ≤ L) (hL : L ≤ 4096) (h : GI b m v3 S) : ∃ S1, GI b m v3 S1 ∧ F_L_law__531 N L xs K23 b m v3 (Int32.ofNat i) S = K23 b m v3 (Int32.ofNat i + 8) S1 := by
  unfold F_L_law__531 F_L_law__584 F_L_law__2507 F_L_told
  simp only [sl_1 hi hL]
  exact seg_T (gt_told (by omega) (xs (i + 1))) h Int32.toInt64 _ q_h0 (fun T => K23 b m v3 (Int32.ofNat i + 8) T)
theorem sg_587 (hN : 20000 < N) (hi : i + 8 ≤ L) (hL : L ≤ 4096) (h : GI b m v3 S) : ∃ S1, GI b m v3 S1 ∧ F_L_law__587 N L xs K23 b m v3 (Int32.ofNat i) S = K23 b m v3 (Int32.ofNat i + 8) S1 := by
  unfold F_L_law__587 F_L_law__640 F_L_law__2507 F_L_many
  simp only [sl_1 hi hL]
  exact seg_T (gt_many (by omega) (xs (i + 1))) h Int32.toInt64 _ q_h0 (fun T => K23 b m v3 (Int32.ofNat i + 8) T)
theorem sg_643 (hN : 20000 < N) (hi : i + 8 ≤ L) (hL : L ≤ 4096) (h : GI b m v3 S) : ∃ S1, GI b m v3 S1 ∧ F_L_law__643 N L xs K23 b m v3 (Int32.ofNat i) S = K23 b m v3 (Int32.ofNat i + 8) S1 := by
  unfold F_L_law__643 F_L_law__708 F_L_law__2507 F_L_monk
  simp only [sl_1 hi hL, sl_2 hi hL]
  exact seg_T (gt_monk (by omega) (xs (i + 1)) (xs (i + 2))) h Int32.toInt64 _ q_h1 (fun T => K23 b m v3 (Int32.ofNat i + 8) T)
theorem sg_711 (hN : 20000 < N) (hi : i + 8 ≤ L) (hL : L ≤ 4096) (h : GI b m v3 S) : ∃ S1, GI b m v3 S1 ∧ F_L_law__711 N L xs K23 b m v3 (Int32.ofNat i) S = K23 b m v3 (Int32.ofNat i + 8) S1 := by
  unfold F_L_law__711 F_L_law__776 F_L_law__2507 F_L_village
  simp only [sl_1 hi hL, sl_2 hi hL]
  exact seg_T (gt_village (by omega) (xs (i + 1)) (xs (i + 2))) h Int32.toInt64 _ q_h1 (fun T => K23 b m v3 (Int32.ofNat i + 8) T)
theorem sg_779 (hN : 20000 < N) (hi : i + 8 ≤ L) (hL : L ≤ 4096) (h : GI b m v3 S) : ∃ S1, GI b m v3 S1 ∧ F_L_law__779 N L xs K23 b m v3 (Int32.ofNat i) S = K23 b m v3 (Int32.ofNat i + 8) S1 := by
  unfold F_L_law__779 F_L_law__832 F_L_law__2507 F_L_cell
  simp only [sl_1 hi hL]
  exact seg_T (gt_cell (by omega) (xs (i + 1))) h Int32.toInt64 _ q_h2 (fun T => K23 b m v3 (Int32.ofNat i + 8) T)
theorem sg_835 (hN : 20000 < N) (hi : i + 8 ≤ L) (hL : L ≤ 4096) (h : GI b m v3 S) : ∃ S1, GI b m v3 S1 ∧ F_L_law__835 N L xs K23 b m v3 (Int32.ofNat i) S = K23 b m v3 (Int32.ofNat i + 8) S1 := by
  unfold F_L_law__835 F_L_law__888 F_L_law__2507 F_L_heir
  simp only [sl_1 hi hL]
  exact seg_T (gt_heir (by omega) (xs (i + 1))) h Int32.toInt64 _ q_h2 (fun T => K23 b m v3 (Int32.ofNat i + 8) T)
theorem sg_891 (hN : 20000 < N) (hi : i + 8 ≤ L) (hL : L ≤ 4096) (h : GI b m v3 S) : ∃ S1, GI b m v3 S1 ∧ F_L_law__891 N L xs K23 b m v3 (Int32.ofNat i) S = K23 b m v3 (Int32.ofNat i + 8) S1 := by
  unfold F_L_law__891  F_L_law__2507
  exact seg_D (α := Unit) (gd_strokes (by omega)) h (fun T => K23 b m v3 (Int32.ofNat i + 8) T)
theorem sg_904 (hN : 20000 < N) (hi : i + 8 ≤ L) (hL : L ≤ 4096) (h : GI b m v3 S) : ∃ S1, GI b m v3 S1 ∧ F_L_law__904 N L xs K23 b m v3 (Int32.ofNat i) S = K23 b m v3 (Int32.ofNat i + 8) S1 := by
  unfold F_L_law__904 F_L_law__1033 F_L_law__2507 F_L_would
  simp only [sl_1 hi hL, sl_2 hi hL, sl_3 hi hL, sl_4 hi hL, sl_5 hi hL, sl_6 hi hL, sl_7 hi hL]
  exact seg_T (gt_would (by omega) (xs (i + 1)) (xs (i + 2)) (xs (i + 3)) (xs (i + 4)) (xs (i + 5)) (xs (i + 6)) (xs (i + 7))) h Int32.toInt64 _ q_h0 (fun T => K23 b m v3 (Int32.ofNat i + 8) T)
theorem sg_1036 (hN : 20000 < N) (hi : i + 8 ≤ L) (hL : L ≤ 4096) (h : GI b m v3 S) : ∃ S1, GI b m v3 S1 ∧ F_L_law__1036 N L xs K23 b m v3 (Int32.ofNat i) S = K23 b m v3 (Int32.ofNat i + 8) S1 := by
  unfold F_L_law__1036 F_L_law__1101 F_L_law__2507 F_L_noise
  simp only [sl_1 hi hL, sl_2 hi hL]
  exact seg_T (gt_noise (by omega) (xs (i + 1)) (xs (i + 2))) h Int32.toInt64 _ q_h1 (fun T => K23 b m v3 (Int32.ofNat i + 8) T)
theorem sg_1104 (hN : 20000 < N) (hi : i + 8 ≤ L) (hL : L ≤ 4096) (h : GI b m v3 S) : ∃ S1, GI b m v3 S1 ∧ F_L_law__1104 N L xs K23 b m v3 (Int32.ofNat i) S = K23 b m v3 (Int32.ofNat i + 8) S1 := by
  unfold F_L_law__1104 F_L_law__1169 F_L_law__2507 F_L_ahead
  simp only [sl_1 hi hL, sl_2 hi hL]
  exact seg_T (gt_ahead (by omega) (xs (i + 1)) (xs (i + 2))) h Int32.toInt64 _ q_h0 (fun T => K23 b m v3 (Int32.ofNat i + 8) T)
theorem sg_1172 (hN : 20000 < N) (hi : i + 8 ≤ L) (hL : L ≤ 4096) (h : GI b m v3 S) : ∃ S1, GI b m v3 S1 ∧ F_L_law__1172 N L xs K23 b m v3 (Int32.ofNat i) S = K23 b m v3 (Int32.ofNat i + 8) S1 := by
  unfold F_L_law__1172 F_L_law__1225 F_L_law__2507 F_L_loudest
  simp only [sl_1 hi hL]
  exact seg_T (gt_loudest (by omega) (xs (i + 1))) h Int32.toInt64 _ q_h0 (fun T => K23 b m v3 (Int32.ofNat i + 8) T)
theorem sg_1228 (hN : 20000 < N) (hi : i + 8 ≤ L) (hL : L ≤ 4096) (h : GI b m v3 S) : ∃ S1, GI b m v3 S1 ∧ F_L_law__1228 N L xs K23 b m v3 (Int32.ofNat i) S = K23 b m v3 (Int32.ofNat i + 8) S1 := by
  unfold F_L_law__1228 F_L_law__1281 F_L_law__2507 F_L_hush
  simp only [sl_1 hi hL]
  exact seg_T (gt_hush (by omega) (xs (i + 1))) h Int32.toInt64 _ q_h0 (fun T => K23 b m v3 (Int32.ofNat i + 8) T)
theorem sg_1284 (hN : 20000 < N) (hi : i + 8 ≤ L) (hL : L ≤ 4096) (h : GI b m v3 S) : ∃ S1, GI b m v3 S1 ∧ F_L_law__1284 N L xs K23 b m v3 (Int32.ofNat i) S = K23 b m v3 (Int32.ofNat i + 8) S1 := by
  unfold F_L_law__1284 F_L_law__1373 F_L_law__2507 F_L_plan
  simp only [sl_1 hi hL, sl_2 hi hL, sl_3 hi hL, sl_4 hi hL]
  exact seg_T (gt_plan (by omega) (xs (i + 1)) (xs (i + 2)) (xs (i + 3)) (xs (i + 4))) h Int32.toInt64 _ q_h0 (fun T => K23 b m v3 (Int32.ofNat i + 8) T)
theorem sg_1376 (hN : 20000 < N) (hi : i + 8 ≤ L) (hL : L ≤ 4096) (h : GI b m v3 S) : ∃ S1, GI b m v3 S1 ∧ F_L_law__1376 N L xs K23 b m v3 (Int32.ofNat i) S = K23 b m v3 (Int32.ofNat i + 8) S1 := by
  unfold F_L_law__1376 F_L_law__1429 F_L_law__2507 F_L_fits
  simp only [sl_1 hi hL]
  exact seg_T (gt_fits (by omega) (xs (i + 1))) h Int32.toInt64 _ q_h0 (fun T => K23 b m v3 (Int32.ofNat i + 8) T)
theorem sg_1432 (hN : 20000 < N) (hi : i + 8 ≤ L) (hL : L ≤ 4096) (h : GI b m v3 S) : ∃ S1, GI b m v3 S1 ∧ F_L_law__1432 N L xs K23 b m v3 (Int32.ofNat i) S = K23 b m v3 (Int32.ofNat i + 8) S1 := by
  unfold F_L_law__1432 F_L_law__1485 F_L_law__2507 F_L_count
  simp only [sl_1 hi hL]
  exact seg_T (gt_count (by omega) (xs (i + 1))) h Int32.toInt64 _ q_h0 (fun T => K23 b m v3 (Int32.ofNat i + 8) T)
theorem sg_1488 (hN : 20000 < N) (hi : i + 8 ≤ L) (hL : L ≤ 4096) (h : GI b m v3 S) : ∃ S1, GI b m v3 S1 ∧ F_L_law__1488 N L xs K23 b m v3 (Int32.ofNat i) S = K23 b m v3 (Int32.ofNat i + 8) S1 := by
  unfold F_L_law__1488 F_L_law__1602 F_L_law__2507 F_L_mistaken
  simp only [sl_1 hi hL, sl_2 hi hL, sl_3 hi hL, sl_4 hi hL, sl_5 hi hL, sl_6 hi hL]
  exact seg_T (gt_mistaken (by omega) (xs (i + 1)) (xs (i + 2)) (xs (i + 3)) (xs (i + 4)) (xs (i + 5)) (xs (i + 6))) h (fun x => x) _ q_h0 (fun T => K23 b m v3 (Int32.ofNat i + 8) T)
theorem sg_1605 (hN : 20000 < N) (hi : i + 8 ≤ L) (hL : L ≤ 4096) (h : GI b m v3 S) : ∃ S1, GI b m v3 S1 ∧ F_L_law__1605 N L xs K23 b m v3 (Int32.ofNat i) S = K23 b m v3 (Int32.ofNat i + 8) S1 := by
  unfold F_L_law__1605 F_L_law__1682 F_L_law__2507 F_L_best
  simp only [sl_1 hi hL, sl_2 hi hL, sl_3 hi hL]
  exact seg_T (gt_best (by omega) (xs (i + 1)) (xs (i + 2)) (xs (i + 3))) h Int32.toInt64 _ q_h0 (fun T => K23 b m v3 (Int32.ofNat i + 8) T)
theorem sg_1685 (hN : 20000 < N) (hi : i + 8 ≤ L) (hL : L ≤ 4096) (h : GI b m v3 S) : ∃ S1, GI b m v3 S1 ∧ F_L_law__1685 N L xs K23 b m v3 (Int32.ofNat i) S = K23 b m v3 (Int32.ofNat i + 8) S1 := by
  unfold F_L_law__1685 F_L_law__1738 F_L_law__2507 F_L_beds
  simp only [sl_1 hi hL]
  exact seg_T (gt_beds (by omega) (xs (i + 1))) h Int32.toInt64 _ q_h0 (fun T => K23 b m v3 (Int32.ofNat i + 8) T)
theorem sg_1741 (hN : 20000 < N) (hi : i + 8 ≤ L) (hL : L ≤ 4096) (h : GI b m v3 S) : ∃ S1, GI b m v3 S1 ∧ F_L_law__1741 N L xs K23 b m v3 (Int32.ofNat i) S = K23 b m v3 (Int32.ofNat i + 8) S1 := by
  unfold F_L_law__1741 F_L_law__1806 F_L_law__2507 F_L_bed
  simp only [sl_1 hi hL, sl_2 hi hL]
  exact seg_T (gt_bed (by omega) (xs (i + 1)) (xs (i + 2))) h Int32.toInt64 _ q_h1 (fun T => K23 b m v3 (Int32.ofNat i + 8) T)
theorem sg_1809 (hN : 20000 < N) (hi : i + 8 ≤ L) (hL : L ≤ 4096) (h : GI b m v3 S) : ∃ S1, GI b m v3 S1 ∧ F_L_law__1809 N L xs K23 b m v3 (Int32.ofNat i) S = K23 b m v3 (Int32.ofNat i + 8) S1 := by
  unfold F_L_law__1809 F_L_law__1874 F_L_law__2507 F_L_watch
  simp only [sl_1 hi hL, sl_2 hi hL]
  exact seg_T (gt_watch (by omega) (xs (i + 1)) (xs (i + 2))) h Int32.toInt64 _ q_h1 (fun T => K23 b m v3 (Int32.ofNat i + 8) T)
theorem sg_1877 (hN : 20000 < N) (hi : i + 8 ≤ L) (hL : L ≤ 4096) (h : GI b m v3 S) : ∃ S1, GI b m v3 S1 ∧ F_L_law__1877 N L xs K23 b m v3 (Int32.ofNat i) S = K23 b m v3 (Int32.ofNat i + 8) S1 := by
  unfold F_L_law__1877 F_L_law__1942 F_L_law__2507 F_L_heirs
  simp only [sl_1 hi hL, sl_2 hi hL]
  exact seg_T (gt_heirs (by omega) (xs (i + 1)) (xs (i + 2))) h Int32.toInt64 _ q_h0 (fun T => K23 b m v3 (Int32.ofNat i + 8) T)
theorem sg_1945 (hN : 20000 < N) (hi : i + 8 ≤ L) (hL : L ≤ 4096) (h : GI b m v3 S) : ∃ S1, GI b m v3 S1 ∧ F_L_law__1945 N L xs K23 b m v3 (Int32.ofNat i) S = K23 b m v3 (Int32.ofNat i + 8) S1 := by
  unfold F_L_law__1945 F_L_law__1998 F_L_law__2507 F_L_sleepers
  simp only [sl_1 hi hL]
  exact seg_T (gt_sleepers (by omega) (xs (i + 1))) h Int32.toInt64 _ q_h0 (fun T => K23 b m v3 (Int32.ofNat i + 8) T)
theorem sg_2001 (hN : 20000 < N) (hi : i + 8 ≤ L) (hL : L ≤ 4096) (h : GI b m v3 S) : ∃ S1, GI b m v3 S1 ∧ F_L_law__2001 N L xs K23 b m v3 (Int32.ofNat i) S = K23 b m v3 (Int32.ofNat i + 8) S1 := by
  unfold F_L_law__2001 F_L_law__2054 F_L_law__2507 F_L_grows
  simp only [sl_1 hi hL]
  exact seg_T (gt_grows (by omega) (xs (i + 1))) h Int32.toInt64 _ q_h0 (fun T => K23 b m v3 (Int32.ofNat i + 8) T)
theorem sg_2057 (hN : 20000 < N) (hi : i + 8 ≤ L) (hL : L ≤ 4096) (h : GI b m v3 S) : ∃ S1, GI b m v3 S1 ∧ F_L_law__2057 N L xs K23 b m v3 (Int32.ofNat i) S = K23 b m v3 (Int32.ofNat i + 8) S1 := by
  unfold F_L_law__2057 F_L_law__2122 F_L_law__2507 F_L_bears
  simp only [sl_1 hi hL, sl_2 hi hL]
  exact seg_T (gt_bears (by omega) (xs (i + 1)) (xs (i + 2))) h Int32.toInt64 _ q_h2 (fun T => K23 b m v3 (Int32.ofNat i + 8) T)
theorem sg_2125 (hN : 20000 < N) (hi : i + 8 ≤ L) (hL : L ≤ 4096) (h : GI b m v3 S) : ∃ S1, GI b m v3 S1 ∧ F_L_law__2125 N L xs K23 b m v3 (Int32.ofNat i) S = K23 b m v3 (Int32.ofNat i + 8) S1 := by
  unfold F_L_law__2125 F_L_law__2178 F_L_law__2507 F_L_level
  simp only [sl_1 hi hL]
  exact seg_T (gt_level (by omega) (xs (i + 1))) h Int32.toInt64 _ q_h0 (fun T => K23 b m v3 (Int32.ofNat i + 8) T)
theorem sg_2181 (hN : 20000 < N) (hi : i + 8 ≤ L) (hL : L ≤ 4096) (h : GI b m v3 S) : ∃ S1, GI b m v3 S1 ∧ F_L_law__2181 N L xs K23 b m v3 (Int32.ofNat i) S = K23 b m v3 (Int32.ofNat i + 8) S1 := by
  unfold F_L_law__2181 F_L_law__2296 F_L_law__2507 F_L_years
  simp only [sl_1 hi hL, sl_2 hi hL, sl_3 hi hL, sl_4 hi hL, sl_5 hi hL, sl_6 hi hL]
  exact seg_T (gt_years (by omega) (xs (i + 1)) (xs (i + 2)) (xs (i + 3)) (xs (i + 4)) (xs (i + 5)) (xs (i + 6))) h Int32.toInt64 _ q_h0 (fun T => K23 b m v3 (Int32.ofNat i + 8) T)
theorem sg_2299 (hN : 20000 < N) (hi : i + 8 ≤ L) (hL : L ≤ 4096) (h : GI b m v3 S) : ∃ S1, GI b m v3 S1 ∧ F_L_law__2299 N L xs K23 b m v3 (Int32.ofNat i) S = K23 b m v3 (Int32.ofNat i + 8) S1 := by
  unfold F_L_law__2299 F_L_law__2428 F_L_law__2507 F_L_span
  simp only [sl_1 hi hL, sl_2 hi hL, sl_3 hi hL, sl_4 hi hL, sl_5 hi hL, sl_6 hi hL, sl_7 hi hL]
  exact seg_T (gt_span (by omega) (xs (i + 1)) (xs (i + 2)) (xs (i + 3)) (xs (i + 4)) (xs (i + 5)) (xs (i + 6)) (xs (i + 7))) h Int32.toInt64 _ q_h0 (fun T => K23 b m v3 (Int32.ofNat i + 8) T)
theorem sg_2431 (hN : 20000 < N) (hi : i + 8 ≤ L) (hL : L ≤ 4096) (h : GI b m v3 S) : ∃ S1, GI b m v3 S1 ∧ F_L_law__2431 N L xs K23 b m v3 (Int32.ofNat i) S = K23 b m v3 (Int32.ofNat i + 8) S1 := by
  unfold F_L_law__2431  F_L_law__2507
  exact seg_D (α := Unit) (gd_image (by omega)) h (fun T => K23 b m v3 (Int32.ofNat i + 8) T)
theorem sg_2444 (hN : 20000 < N) (hi : i + 8 ≤ L) (hL : L ≤ 4096) (h : GI b m v3 S) : ∃ S1, GI b m v3 S1 ∧ F_L_law__2444 N L xs K23 b m v3 (Int32.ofNat i) S = K23 b m v3 (Int32.ofNat i + 8) S1 := by
  unfold F_L_law__2444  F_L_law__2507
  exact seg_D (α := Unit) (gd_restore (by omega)) h (fun T => K23 b m v3 (Int32.ofNat i + 8) T)
theorem sg_2457 (hN : 20000 < N) (hi : i + 8 ≤ L) (hL : L ≤ 4096) (h : GI b m v3 S) : ∃ S1, GI b m v3 S1 ∧ F_L_law__2457 N L xs K23 b m v3 (Int32.ofNat i) S = K23 b m v3 (Int32.ofNat i + 8) S1 := by
  unfold F_L_law__2457  F_L_law__2507
  simp only [sl_1 hi hL]
  exact seg_D (α := Unit) (gd_status (by omega) (xs (i + 1))) h (fun T => K23 b m v3 (Int32.ofNat i + 8) T)
theorem sg_2482 (hN : 20000 < N) (hi : i + 8 ≤ L) (hL : L ≤ 4096) (h : GI b m v3 S) : ∃ S1, GI b m v3 S1 ∧ F_L_law__2482 N L xs K23 b m v3 (Int32.ofNat i) S = K23 b m v3 (Int32.ofNat i + 8) S1 := by
  unfold F_L_law__2482  F_L_law__2507
  simp only [sl_1 hi hL]
  exact seg_D (α := Unit) (gd_kept (by omega) (xs (i + 1))) h (fun T => K23 b m v3 (Int32.ofNat i + 8) T)
theorem sw_if {p : Prop} [Decidable p] {A B : Option (Int32 × AxS)} {F : AxS → Option (Int32 × AxS)} (h1 : ∃ S1, GI b m v3 S1 ∧ A = F S1) (h2 : ∃ S1, GI b m v3 S1 ∧ B = F S1) : ∃ S1, GI b m v3 S1 ∧ (if p then A else B) = F S1 := by
  by_cases c : p
  · rw [if_pos c]
    exact h1
  · rw [if_neg c]
    exact h2
theorem law_step (hN : 20000 < N) (hi : i + 8 ≤ L) (hL : L ≤ 4096) (h : GI b m v3 S) : ∃ S1, GI b m v3 S1 ∧ F_L_law__23b N L xs K23 b m v3 (Int32.ofNat i) S = K23 b m v3 (Int32.ofNat i + 8) S1 := by
  unfold F_L_law__23b
  rw [show (Int32.ofNat L - 8 : Int32) = Int32.ofNat (L - 8) from qi_sub (i := L) (j := 8) (by omega), if_neg (qi_ngt (by omega) (by omega)), sl_0 hi hL]
  refine sw_if (sg_208 hN hi hL h) ?_
  refine sw_if (sg_281 hN hi hL h) ?_
  refine sw_if (sg_337 hN hi hL h) ?_
  refine sw_if (sg_393 hN hi hL h) ?_
  refine sw_if (sg_449 hN hi hL h) ?_
  refine sw_if (sg_505 hN hi hL h) ?_
  refine sw_if (sg_518 hN hi hL h) ?_
  refine sw_if (sg_531 hN hi hL h) ?_
  refine sw_if (sg_587 hN hi hL h) ?_
  refine sw_if (sg_643 hN hi hL h) ?_
  refine sw_if (sg_711 hN hi hL h) ?_
  refine sw_if (sg_779 hN hi hL h) ?_
  refine sw_if (sg_835 hN hi hL h) ?_
  refine sw_if (sg_891 hN hi hL h) ?_
  refine sw_if (sg_904 hN hi hL h) ?_
  refine sw_if (sg_1036 hN hi hL h) ?_
  refine sw_if (sg_1104 hN hi hL h) ?_
  refine sw_if (sg_1172 hN hi hL h) ?_
  refine sw_if (sg_1228 hN hi hL h) ?_
  refine sw_if (sg_1284 hN hi hL h) ?_
  refine sw_if (sg_1376 hN hi hL h) ?_
  refine sw_if (sg_1432 hN hi hL h) ?_
  refine sw_if (sg_1488 hN hi hL h) ?_
  refine sw_if (sg_1605 hN hi hL h) ?_
  refine sw_if (sg_1685 hN hi hL h) ?_
  refine sw_if (sg_1741 hN hi hL h) ?_
  refine sw_if (sg_1809 hN hi hL h) ?_
  refine sw_if (sg_1877 hN hi hL h) ?_
  refine sw_if (sg_1945 hN hi hL h) ?_
  refine sw_if (sg_2001 hN hi hL h) ?_
  refine sw_if (sg_2057 hN hi hL h) ?_
  refine sw_if (sg_2125 hN hi hL h) ?_
  refine sw_if (sg_2181 hN hi hL h) ?_
  refine sw_if (sg_2299 hN hi hL h) ?_
  refine sw_if (sg_2431 hN hi hL h) ?_
  refine sw_if (sg_2444 hN hi hL h) ?_
  refine sw_if (sg_2457 hN hi hL h) ?_
  refine sw_if (sg_2482 hN hi hL h) ?_
  exact ⟨S, h, rfl⟩
theorem law_end (hi : i ≤ L) (h8 : L < i + 8) (hL : L ≤ 4096) : F_L_law__23b N L xs K23 b m v3 (Int32.ofNat i) S = some (1, S) := by
  unfold F_L_law__23b
  refine if_pos ?_
  by_cases c : 8 ≤ L
  · rw [show (Int32.ofNat L - 8 : Int32) = Int32.ofNat (L - 8) from qi_sub c]
    exact qi_gt (by omega) (by omega)
  · have e : (Int32.ofNat L - 8 : Int32) < 0 := by
      have w : L = 0 ∨ L = 1 ∨ L = 2 ∨ L = 3 ∨ L = 4 ∨ L = 5 ∨ L = 6 ∨ L = 7 := by omega
      rcases w with rfl | rfl | rfl | rfl | rfl | rfl | rfl | rfl <;> decide
    exact Int32.lt_of_lt_of_le e (qi_ge (i := 0) (by omega) (by omega))
theorem law_loop (hN : 20000 < N) (hL : L ≤ 4096) : ∀ (n i : Nat) (S : AxS), GI b m v3 S → i ≤ L → L < i + 8 * n → ∃ S1, F_L_law__23 N L xs n b m v3 (Int32.ofNat i) S = some (1, S1)
  | 0, i, S, h, h1, h2 => absurd h2 (by omega)
  | n + 1, i, S, h, h1, h2 => by
    show ∃ S1, F_L_law__23b N L xs (F_L_law__23 N L xs n) b m v3 (Int32.ofNat i) S = some (1, S1)
    by_cases c : L < i + 8
    · exact ⟨S, law_end h1 c hL⟩
    · obtain ⟨S1, g1, e1⟩ := law_step (xs := xs) (K23 := F_L_law__23 N L xs n) hN (show i + 8 ≤ L by omega) hL h
      obtain ⟨S2, e2⟩ := law_loop hN hL n (i + 8) S1 g1 (by omega) (by omega)
      exact ⟨S2, by rw [e1, show Int32.ofNat i + 8 = Int32.ofNat (i + 8) from qi_add i 8, e2]⟩
end
