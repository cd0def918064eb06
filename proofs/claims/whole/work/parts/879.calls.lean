/-! each call of the law, on both objects -/
theorem q_idx {x y : Int32} (h : 0 ≤ x ∧ x < y) : ∃ k, k < y.toNatClampNeg ∧ x = Int32.ofNat k := by
  obtain ⟨h1, h2⟩ := h
  obtain ⟨e1, b1⟩ := qi_of (Int32.not_lt.mpr h1)
  obtain ⟨e2, b2⟩ := qi_of (Int32.not_lt.mpr (Int32.le_of_lt (Int32.lt_of_le_of_lt h1 h2)))
  refine ⟨x.toNatClampNeg, ?_, e1⟩
  rw [e1, e2, qi_lt b1 b2] at h2
  exact h2
section
variable {b m : Nat}
theorem gt_told {N : Nat} (hN : 2000 < N) (x : Int32) : GT 0 b m (F_X9_told N b x) (F_X10_told N m x) := by
  rintro ⟨ψ, l, r, β, nl, nb, t, pl, rs, c0, c1, nw, wk, ni, im⟩ hV hO
  by_cases c : 0 ≤ x ∧ x ≤ 12
  · refine Or.inl ⟨q_told r (Int32.ofNat nl) rs x, (ψ, l, r, β, nl, nb, t, pl, rs, c0, c1, nw, wk, ni, im), hV, fun Z f hC => ?_, fun Z f hM => ?_⟩
    · have hC : CA Z b f ψ l r β nl nb t pl rs c0 c1 nw wk ni im := hC
      obtain ⟨fa, sf, la, sl, bo, sb, hH, hB⟩ := hC.1
      have q := (qc_told N hH x).1 c
      rw [hB.1, hC.2.2.2.2.2.2.1] at q
      exact hC.ask hV q
    · have hM : MA Z m f ψ l r β nl nb t pl rs c0 c1 nw wk ni im := hM
      have q := (qm_told N hM.1 x).1 c
      rw [hM.2.1.1, hM.2.2.2.2.2.1] at q
      exact hM.ask hV q
  · refine Or.inr ⟨q_iae, 1, (ψ, l, r, β, nl, nb, t, pl, rs, c0, c1 + 1, nw, wk, ni, im), Or.inl ⟨rfl, rfl, rfl⟩, hV, fun Z f hC => ?_, fun Z f hM => ?_⟩
    · have hC : CA Z b f ψ l r β nl nb t pl rs c0 c1 nw wk ni im := hC
      obtain ⟨fa, sf, la, sl, bo, sb, hH, hB⟩ := hC.1
      exact hC.tz15 hV ((qc_told N hH x).2 c)
    · have hM : MA Z m f ψ l r β nl nb t pl rs c0 c1 nw wk ni im := hM
      exact hM.tz1 hV ((qm_told N hM.1 x).2 c)
theorem gt_many {N : Nat} (hN : 2000 < N) (x : Int32) : GT 0 b m (F_X9_many N b x) (F_X10_many N m x) := by
  rintro ⟨ψ, l, r, β, nl, nb, t, pl, rs, c0, c1, nw, wk, ni, im⟩ hV hO
  by_cases c : 0 ≤ x ∧ x ≤ 3
  · refine Or.inl ⟨q_many ψ x, (ψ, l, r, β, nl, nb, t, pl, rs, c0, c1, nw, wk, ni, im), hV, fun Z f hC => ?_, fun Z f hM => ?_⟩
    · have hC : CA Z b f ψ l r β nl nb t pl rs c0 c1 nw wk ni im := hC
      obtain ⟨fa, sf, la, sl, bo, sb, hH, hB⟩ := hC.1
      have q := (qc_many N hH x).1 c
      exact hC.ask hV q
    · have hM : MA Z m f ψ l r β nl nb t pl rs c0 c1 nw wk ni im := hM
      have q := (qm_many N hM.1 x).1 c
      exact hM.ask hV q
  · refine Or.inr ⟨q_iae, 1, (ψ, l, r, β, nl, nb, t, pl, rs, c0, c1 + 1, nw, wk, ni, im), Or.inl ⟨rfl, rfl, rfl⟩, hV, fun Z f hC => ?_, fun Z f hM => ?_⟩
    · have hC : CA Z b f ψ l r β nl nb t pl rs c0 c1 nw wk ni im := hC
      obtain ⟨fa, sf, la, sl, bo, sb, hH, hB⟩ := hC.1
      exact hC.tz15 hV ((qc_many N hH x).2 c)
    · have hM : MA Z m f ψ l r β nl nb t pl rs c0 c1 nw wk ni im := hM
      exact hM.tz1 hV ((qm_many N hM.1 x).2 c)
theorem gt_would {N : Nat} (hN : 2000 < N) (v1 v2 v3 v4 v5 v6 v7 : Int32) : GT 0 b m (F_X9_would N b v1 v2 v3 v4 v5 v6 v7) (F_X10_would N m v1 v2 v3 v4 v5 v6 v7) := by
  rintro ⟨ψ, l, r, β, nl, nb, t, pl, rs, c0, c1, nw, wk, ni, im⟩ hV hO
  by_cases c : q_wouldc v1 v2 v3 v4 v5 v6 v7
  · refine Or.inl ⟨q_toll l (q_sev v1 v2 v3 v4 v5 v6 v7), (ψ, l, r, β, nl, nb, t, pl, rs, c0, c1, nw, wk, ni, im), hV, fun Z f hC => ?_, fun Z f hM => ?_⟩
    · have hC : CA Z b f ψ l r β nl nb t pl rs c0 c1 nw wk ni im := hC
      obtain ⟨fa, sf, la, sl, bo, sb, hH, hB⟩ := hC.1
      have q := (qc_would (N := N) (by omega) hH v1 v2 v3 v4 v5 v6 v7).1 c
      exact hC.ask hV q
    · have hM : MA Z m f ψ l r β nl nb t pl rs c0 c1 nw wk ni im := hM
      have q := (qm_would (N := N) (by omega) hM.1 v1 v2 v3 v4 v5 v6 v7).1 c
      exact hM.ask hV q
  · refine Or.inr ⟨q_iae, 1, (ψ, l, r, β, nl, nb, t, pl, rs, c0, c1 + 1, nw, wk, ni, im), Or.inl ⟨rfl, rfl, rfl⟩, hV, fun Z f hC => ?_, fun Z f hM => ?_⟩
    · have hC : CA Z b f ψ l r β nl nb t pl rs c0 c1 nw wk ni im := hC
      obtain ⟨fa, sf, la, sl, bo, sb, hH, hB⟩ := hC.1
      exact hC.tz15 hV ((qc_would (N := N) (by omega) hH v1 v2 v3 v4 v5 v6 v7).2 c)
    · have hM : MA Z m f ψ l r β nl nb t pl rs c0 c1 nw wk ni im := hM
      exact hM.tz1 hV ((qm_would (N := N) (by omega) hM.1 v1 v2 v3 v4 v5 v6 v7).2 c)
theorem gt_ahead {N : Nat} (hN : 2000 < N) (x w : Int32) : GT 0 b m (F_X9_ahead N b x w) (F_X10_ahead N m x w) := by
  rintro ⟨ψ, l, r, β, nl, nb, t, pl, rs, c0, c1, nw, wk, ni, im⟩ hV hO
  by_cases c : (0 ≤ x ∧ x ≤ 60) ∧ (0 ≤ w ∧ w ≤ 3)
  · obtain ⟨tt, h1, rfl⟩ := q_nn c.1.1 (show x ≤ Int32.ofNat 60 from c.1.2) (by omega)
    refine Or.inl ⟨q_ahv r (q_ah ψ l tt r 0) w, (ψ, l, r, β, nl, nb, t, pl, rs, c0, c1, nw, wk, ni, im), hV, fun Z f hC => ?_, fun Z f hM => ?_⟩
    · have hC : CA Z b f ψ l r β nl nb t pl rs c0 c1 nw wk ni im := hC
      obtain ⟨fa, sf, la, sl, bo, sb, hH, hB⟩ := hC.1
      have q := (qc_ahead (N := N) (by omega) hH (Int32.ofNat tt) w).1 tt h1 rfl c.2
      exact hC.ask hV q
    · have hM : MA Z m f ψ l r β nl nb t pl rs c0 c1 nw wk ni im := hM
      have q := (qm_ahead (N := N) (by omega) hM.1 (Int32.ofNat tt) w).1 tt h1 rfl c.2
      exact hM.ask hV q
  · refine Or.inr ⟨q_iae, 1, (ψ, l, r, β, nl, nb, t, pl, rs, c0, c1 + 1, nw, wk, ni, im), Or.inl ⟨rfl, rfl, rfl⟩, hV, fun Z f hC => ?_, fun Z f hM => ?_⟩
    · have hC : CA Z b f ψ l r β nl nb t pl rs c0 c1 nw wk ni im := hC
      obtain ⟨fa, sf, la, sl, bo, sb, hH, hB⟩ := hC.1
      exact hC.tz15 hV ((qc_ahead (N := N) (by omega) hH x w).2 c)
    · have hM : MA Z m f ψ l r β nl nb t pl rs c0 c1 nw wk ni im := hM
      exact hM.tz1 hV ((qm_ahead (N := N) (by omega) hM.1 x w).2 c)
theorem gt_loudest {N : Nat} (hN : 2000 < N) (w : Int32) : GT 0 b m (F_X9_loudest N b w) (F_X10_loudest N m w) := by
  rintro ⟨ψ, l, r, β, nl, nb, t, pl, rs, c0, c1, nw, wk, ni, im⟩ hV hO
  by_cases c : 0 ≤ w ∧ w ≤ 1
  · refine Or.inl ⟨q_loudv (q_loud ψ l 60 0 r 0 (-1)) w, (ψ, l, r, β, nl, nb, t, pl, rs, c0, c1, nw, wk, ni, im), hV, fun Z f hC => ?_, fun Z f hM => ?_⟩
    · have hC : CA Z b f ψ l r β nl nb t pl rs c0 c1 nw wk ni im := hC
      obtain ⟨fa, sf, la, sl, bo, sb, hH, hB⟩ := hC.1
      have q := (qc_loudest (N := N) (by omega) hH w).1 c
      exact hC.ask hV q
    · have hM : MA Z m f ψ l r β nl nb t pl rs c0 c1 nw wk ni im := hM
      have q := (qm_loudest (N := N) (by omega) hM.1 w).1 c
      exact hM.ask hV q
  · refine Or.inr ⟨q_iae, 1, (ψ, l, r, β, nl, nb, t, pl, rs, c0, c1 + 1, nw, wk, ni, im), Or.inl ⟨rfl, rfl, rfl⟩, hV, fun Z f hC => ?_, fun Z f hM => ?_⟩
    · have hC : CA Z b f ψ l r β nl nb t pl rs c0 c1 nw wk ni im := hC
      obtain ⟨fa, sf, la, sl, bo, sb, hH, hB⟩ := hC.1
      exact hC.tz15 hV ((qc_loudest (N := N) (by omega) hH w).2 c)
    · have hM : MA Z m f ψ l r β nl nb t pl rs c0 c1 nw wk ni im := hM
      exact hM.tz1 hV ((qm_loudest (N := N) (by omega) hM.1 w).2 c)
theorem gt_hush {N : Nat} (hN : 2000 < N) (w : Int32) : GT 0 b m (F_X9_hush N b w) (F_X10_hush N m w) := by
  rintro ⟨ψ, l, r, β, nl, nb, t, pl, rs, c0, c1, nw, wk, ni, im⟩ hV hO
  by_cases c : 0 ≤ w ∧ w ≤ 999
  · refine Or.inl ⟨q_hush l r w 1000 0, (ψ, l, r, β, nl, nb, t, pl, rs, c0, c1, nw, wk, ni, im), hV, fun Z f hC => ?_, fun Z f hM => ?_⟩
    · have hC : CA Z b f ψ l r β nl nb t pl rs c0 c1 nw wk ni im := hC
      obtain ⟨fa, sf, la, sl, bo, sb, hH, hB⟩ := hC.1
      have q := (qc_hush (N := N) (by omega) hH w).1 c
      exact hC.ask hV q
    · have hM : MA Z m f ψ l r β nl nb t pl rs c0 c1 nw wk ni im := hM
      have q := (qm_hush (N := N) (by omega) hM.1 w).1 c
      exact hM.ask hV q
  · refine Or.inr ⟨q_iae, 1, (ψ, l, r, β, nl, nb, t, pl, rs, c0, c1 + 1, nw, wk, ni, im), Or.inl ⟨rfl, rfl, rfl⟩, hV, fun Z f hC => ?_, fun Z f hM => ?_⟩
    · have hC : CA Z b f ψ l r β nl nb t pl rs c0 c1 nw wk ni im := hC
      obtain ⟨fa, sf, la, sl, bo, sb, hH, hB⟩ := hC.1
      exact hC.tz15 hV ((qc_hush (N := N) (by omega) hH w).2 c)
    · have hM : MA Z m f ψ l r β nl nb t pl rs c0 c1 nw wk ni im := hM
      exact hM.tz1 hV ((qm_hush (N := N) (by omega) hM.1 w).2 c)
theorem gt_plan {N : Nat} (hN : 2000 < N) (n B bits w : Int32) : GT 0 b m (F_X9_plan N b n B bits w) (F_X10_plan N m n B bits w) := by
  rintro ⟨ψ, l, r, β, nl, nb, t, pl, rs, c0, c1, nw, wk, ni, im⟩ hV hO
  by_cases c : q_planc n B bits w
  · refine Or.inl ⟨q_plv n.toNatClampNeg w (q_pln n.toNatClampNeg (fun row => q_quiet ψ l n.toNatClampNeg B bits row n.toNatClampNeg 0 r) (4 ^ n.toNatClampNeg) 0 none), (ψ, l, r, β, nl, nb, t, pl, rs, c0, c1, nw, wk, ni, im), hV, fun Z f hC => ?_, fun Z f hM => ?_⟩
    · have hC : CA Z b f ψ l r β nl nb t pl rs c0 c1 nw wk ni im := hC
      obtain ⟨fa, sf, la, sl, bo, sb, hH, hB⟩ := hC.1
      have q := (qc_plan (N := N) (by omega) hH n B bits w).1 c
      exact hC.ask hV q
    · have hM : MA Z m f ψ l r β nl nb t pl rs c0 c1 nw wk ni im := hM
      have q := (qm_plan (N := N) (by omega) hM.1 n B bits w).1 c
      exact hM.ask hV q
  · refine Or.inr ⟨q_iae, 1, (ψ, l, r, β, nl, nb, t, pl, rs, c0, c1 + 1, nw, wk, ni, im), Or.inl ⟨rfl, rfl, rfl⟩, hV, fun Z f hC => ?_, fun Z f hM => ?_⟩
    · have hC : CA Z b f ψ l r β nl nb t pl rs c0 c1 nw wk ni im := hC
      obtain ⟨fa, sf, la, sl, bo, sb, hH, hB⟩ := hC.1
      exact hC.tz15 hV ((qc_plan (N := N) (by omega) hH n B bits w).2 c)
    · have hM : MA Z m f ψ l r β nl nb t pl rs c0 c1 nw wk ni im := hM
      exact hM.tz1 hV ((qm_plan (N := N) (by omega) hM.1 n B bits w).2 c)
theorem gt_fits {N : Nat} (hN : 2000 < N) (w : Int32) : GT 0 b m (F_X9_fits N b w) (F_X10_fits N m w) := by
  rintro ⟨ψ, l, r, β, nl, nb, t, pl, rs, c0, c1, nw, wk, ni, im⟩ hV hO
  by_cases c : 0 ≤ w ∧ w ≤ 3
  · refine Or.inl ⟨q_fitv (q_fall ψ l β) w, (ψ, l, r, β, nl, nb, t, pl, rs, c0, c1, nw, wk, ni, im), hV, fun Z f hC => ?_, fun Z f hM => ?_⟩
    · have hC : CA Z b f ψ l r β nl nb t pl rs c0 c1 nw wk ni im := hC
      obtain ⟨fa, sf, la, sl, bo, sb, hH, hB⟩ := hC.1
      have q := (qc_fits (N := N) hN hH hB hC.2.1 w).1 c
      exact hC.askF hV q
    · have hM : MA Z m f ψ l r β nl nb t pl rs c0 c1 nw wk ni im := hM
      have q := (qm_fits (N := N) hN hM.1 hM.2.1 w).1 c
      exact hM.ask hV q
  · refine Or.inr ⟨q_iae, 1, (ψ, l, r, β, nl, nb, t, pl, rs, c0, c1 + 1, nw, wk, ni, im), Or.inl ⟨rfl, rfl, rfl⟩, hV, fun Z f hC => ?_, fun Z f hM => ?_⟩
    · have hC : CA Z b f ψ l r β nl nb t pl rs c0 c1 nw wk ni im := hC
      obtain ⟨fa, sf, la, sl, bo, sb, hH, hB⟩ := hC.1
      exact hC.tz15 hV ((qc_fits (N := N) hN hH hB hC.2.1 w).2 c)
    · have hM : MA Z m f ψ l r β nl nb t pl rs c0 c1 nw wk ni im := hM
      exact hM.tz1 hV ((qm_fits (N := N) hN hM.1 hM.2.1 w).2 c)
theorem gt_count {N : Nat} (hN : 2000 < N) (w : Int32) : GT 0 b m (F_X9_count N b w) (F_X10_count N m w) := by
  rintro ⟨ψ, l, r, β, nl, nb, t, pl, rs, c0, c1, nw, wk, ni, im⟩ hV hO
  by_cases c : 0 ≤ w ∧ w ≤ 1
  · refine Or.inl ⟨(if w = 0 then (q_fch ψ l β).1 else (q_fch ψ l β).2), (ψ, l, r, β, nl, nb, t, pl, rs, c0, c1, nw, wk, ni, im), hV, fun Z f hC => ?_, fun Z f hM => ?_⟩
    · have hC : CA Z b f ψ l r β nl nb t pl rs c0 c1 nw wk ni im := hC
      obtain ⟨fa, sf, la, sl, bo, sb, hH, hB⟩ := hC.1
      have q := (qc_count (N := N) hN hH hB hC.2.1 w).1 c
      exact hC.askF hV q
    · have hM : MA Z m f ψ l r β nl nb t pl rs c0 c1 nw wk ni im := hM
      have q := (qm_count (N := N) hN hM.1 hM.2.1 w).1 c
      exact hM.ask hV q
  · refine Or.inr ⟨q_iae, 1, (ψ, l, r, β, nl, nb, t, pl, rs, c0, c1 + 1, nw, wk, ni, im), Or.inl ⟨rfl, rfl, rfl⟩, hV, fun Z f hC => ?_, fun Z f hM => ?_⟩
    · have hC : CA Z b f ψ l r β nl nb t pl rs c0 c1 nw wk ni im := hC
      obtain ⟨fa, sf, la, sl, bo, sb, hH, hB⟩ := hC.1
      exact hC.tz15 hV ((qc_count (N := N) hN hH hB hC.2.1 w).2 c)
    · have hM : MA Z m f ψ l r β nl nb t pl rs c0 c1 nw wk ni im := hM
      exact hM.tz1 hV ((qm_count (N := N) hN hM.1 hM.2.1 w).2 c)
theorem gt_mistaken {N : Nat} (hN : 2000 < N) (n p q tt w part : Int32) : GT 0 b m (F_X9_mistaken N b n p q tt w part) (F_X10_mistaken N m n p q tt w part) := by
  rintro ⟨ψ, l, r, β, nl, nb, t, pl, rs, c0, c1, nw, wk, ni, im⟩ hV hO
  by_cases c : q_misc n p q tt w part
  · refine Or.inl ⟨q_misv n p q tt w part, (ψ, l, r, β, nl, nb, t, pl, rs, c0, c1, nw, wk, ni, im), hV, fun Z f hC => ?_, fun Z f hM => ?_⟩
    · have hC : CA Z b f ψ l r β nl nb t pl rs c0 c1 nw wk ni im := hC
      obtain ⟨fa, sf, la, sl, bo, sb, hH, hB⟩ := hC.1
      have q := (qc_mistaken (N := N) (by omega) hH n p q tt w part).1 c
      exact hC.ask hV q
    · have hM : MA Z m f ψ l r β nl nb t pl rs c0 c1 nw wk ni im := hM
      have q := (qm_mistaken (N := N) (by omega) hM.1 n p q tt w part).1 c
      exact hM.ask hV q
  · refine Or.inr ⟨q_iae, 1, (ψ, l, r, β, nl, nb, t, pl, rs, c0, c1 + 1, nw, wk, ni, im), Or.inl ⟨rfl, rfl, rfl⟩, hV, fun Z f hC => ?_, fun Z f hM => ?_⟩
    · have hC : CA Z b f ψ l r β nl nb t pl rs c0 c1 nw wk ni im := hC
      obtain ⟨fa, sf, la, sl, bo, sb, hH, hB⟩ := hC.1
      exact hC.tz15 hV ((qc_mistaken (N := N) (by omega) hH n p q tt w part).2 c)
    · have hM : MA Z m f ψ l r β nl nb t pl rs c0 c1 nw wk ni im := hM
      exact hM.tz1 hV ((qm_mistaken (N := N) (by omega) hM.1 n p q tt w part).2 c)
theorem gt_best {N : Nat} (hN : 2000 < N) (n p q : Int32) : GT 0 b m (F_X9_best N b n p q) (F_X10_best N m n p q) := by
  rintro ⟨ψ, l, r, β, nl, nb, t, pl, rs, c0, c1, nw, wk, ni, im⟩ hV hO
  by_cases c : q_odc n p q
  · refine Or.inl ⟨Int32.ofNat (q_bst n.toNatClampNeg p.toNatClampNeg q.toNatClampNeg (n.toNatClampNeg + 2) 0 none 0), (ψ, l, r, β, nl, nb, t, pl, rs, c0, c1, nw, wk, ni, im), hV, fun Z f hC => ?_, fun Z f hM => ?_⟩
    · have hC : CA Z b f ψ l r β nl nb t pl rs c0 c1 nw wk ni im := hC
      obtain ⟨fa, sf, la, sl, bo, sb, hH, hB⟩ := hC.1
      have q := (qc_best (N := N) (by omega) hH n p q).1 c
      exact hC.ask hV q
    · have hM : MA Z m f ψ l r β nl nb t pl rs c0 c1 nw wk ni im := hM
      have q := (qm_best (N := N) (by omega) hM.1 n p q).1 c
      exact hM.ask hV q
  · refine Or.inr ⟨q_iae, 1, (ψ, l, r, β, nl, nb, t, pl, rs, c0, c1 + 1, nw, wk, ni, im), Or.inl ⟨rfl, rfl, rfl⟩, hV, fun Z f hC => ?_, fun Z f hM => ?_⟩
    · have hC : CA Z b f ψ l r β nl nb t pl rs c0 c1 nw wk ni im := hC
      obtain ⟨fa, sf, la, sl, bo, sb, hH, hB⟩ := hC.1
      exact hC.tz15 hV ((qc_best (N := N) (by omega) hH n p q).2 c)
    · have hM : MA Z m f ψ l r β nl nb t pl rs c0 c1 nw wk ni im := hM
      exact hM.tz1 hV ((qm_best (N := N) (by omega) hM.1 n p q).2 c)
theorem gt_beds {N : Nat} (hN : 2000 < N) (s : Int32) : GT 0 b m (F_X9_beds N b s) (F_X10_beds N m s) := by
  rintro ⟨ψ, l, r, β, nl, nb, t, pl, rs, c0, c1, nw, wk, ni, im⟩ hV hO
  by_cases c : 0 ≤ s ∧ s ≤ 999
  · refine Or.inl ⟨Int32.ofNat (q_bV ψ s (ψ 0 4).toNatClampNeg (ψ 0 5).toNatClampNeg 0 0), (ψ, l, r, β, nl, nb, t, pl, rs, c0, c1, nw, wk, ni, im), hV, fun Z f hC => ?_, fun Z f hM => ?_⟩
    · have hC : CA Z b f ψ l r β nl nb t pl rs c0 c1 nw wk ni im := hC
      obtain ⟨fa, sf, la, sl, bo, sb, hH, hB⟩ := hC.1
      have q := (qc_beds (N := N) (by omega) hH s).1 c
      exact hC.ask hV q
    · have hM : MA Z m f ψ l r β nl nb t pl rs c0 c1 nw wk ni im := hM
      have q := (qm_bedsA (N := N) (by omega) hM.1 s).1 c
      exact hM.ask hV q
  · refine Or.inr ⟨q_iae, 1, (ψ, l, r, β, nl, nb, t, pl, rs, c0, c1 + 1, nw, wk, ni, im), Or.inl ⟨rfl, rfl, rfl⟩, hV, fun Z f hC => ?_, fun Z f hM => ?_⟩
    · have hC : CA Z b f ψ l r β nl nb t pl rs c0 c1 nw wk ni im := hC
      obtain ⟨fa, sf, la, sl, bo, sb, hH, hB⟩ := hC.1
      exact hC.tz15 hV ((qc_beds (N := N) (by omega) hH s).2 c)
    · have hM : MA Z m f ψ l r β nl nb t pl rs c0 c1 nw wk ni im := hM
      exact hM.tz1 hV ((qm_bedsA (N := N) (by omega) hM.1 s).2 c)
theorem gt_heirs {N : Nat} (hN : 20000 < N) (k w : Int32) : GT 0 b m (F_X9_heirs N b k w) (F_X10_heirs N m k w) := by
  rintro ⟨ψ, l, r, β, nl, nb, t, pl, rs, c0, c1, nw, wk, ni, im⟩ hV hO
  by_cases c : q_heirc k w
  · refine Or.inl ⟨q_heirv ψ r k w, (ψ, l, r, β, nl, nb, t, pl, rs, c0, c1, nw, wk, ni, im), hV, fun Z f hC => ?_, fun Z f hM => ?_⟩
    · have hC : CA Z b f ψ l r β nl nb t pl rs c0 c1 nw wk ni im := hC
      obtain ⟨fa, sf, la, sl, bo, sb, hH, hB⟩ := hC.1
      have q := (qc_heirs (N := N) (by omega) hH k w).1 c
      exact hC.ask hV q
    · have hM : MA Z m f ψ l r β nl nb t pl rs c0 c1 nw wk ni im := hM
      have q := (qm_heirs (N := N) (by omega) hM.1 k w).1 c
      exact hM.ask hV q
  · refine Or.inr ⟨q_iae, 1, (ψ, l, r, β, nl, nb, t, pl, rs, c0, c1 + 1, nw, wk, ni, im), Or.inl ⟨rfl, rfl, rfl⟩, hV, fun Z f hC => ?_, fun Z f hM => ?_⟩
    · have hC : CA Z b f ψ l r β nl nb t pl rs c0 c1 nw wk ni im := hC
      obtain ⟨fa, sf, la, sl, bo, sb, hH, hB⟩ := hC.1
      exact hC.tz15 hV ((qc_heirs (N := N) (by omega) hH k w).2 c)
    · have hM : MA Z m f ψ l r β nl nb t pl rs c0 c1 nw wk ni im := hM
      exact hM.tz1 hV ((qm_heirs (N := N) (by omega) hM.1 k w).2 c)
theorem gt_sleepers {N : Nat} (hN : 2000 < N) (s : Int32) : GT 0 b m (F_X9_sleepers N b s) (F_X10_sleepers N m s) := by
  rintro ⟨ψ, l, r, β, nl, nb, t, pl, rs, c0, c1, nw, wk, ni, im⟩ hV hO
  by_cases c : 0 ≤ s ∧ s ≤ 999
  · refine Or.inl ⟨q_sleepers ψ r s (ψ 0 5).toNatClampNeg, (ψ, l, r, β, nl, nb, t, pl, rs, c0, c1, nw, wk, ni, im), hV, fun Z f hC => ?_, fun Z f hM => ?_⟩
    · have hC : CA Z b f ψ l r β nl nb t pl rs c0 c1 nw wk ni im := hC
      obtain ⟨fa, sf, la, sl, bo, sb, hH, hB⟩ := hC.1
      have q := (qc_sleepers (N := N) (by omega) hH s).1 c
      exact hC.ask hV q
    · have hM : MA Z m f ψ l r β nl nb t pl rs c0 c1 nw wk ni im := hM
      have q := (qm_sleepers (N := N) (by omega) hM.1 s).1 c
      exact hM.ask hV q
  · refine Or.inr ⟨q_iae, 1, (ψ, l, r, β, nl, nb, t, pl, rs, c0, c1 + 1, nw, wk, ni, im), Or.inl ⟨rfl, rfl, rfl⟩, hV, fun Z f hC => ?_, fun Z f hM => ?_⟩
    · have hC : CA Z b f ψ l r β nl nb t pl rs c0 c1 nw wk ni im := hC
      obtain ⟨fa, sf, la, sl, bo, sb, hH, hB⟩ := hC.1
      exact hC.tz15 hV ((qc_sleepers (N := N) (by omega) hH s).2 c)
    · have hM : MA Z m f ψ l r β nl nb t pl rs c0 c1 nw wk ni im := hM
      exact hM.tz1 hV ((qm_sleepers (N := N) (by omega) hM.1 s).2 c)
theorem gt_grows {N : Nat} (hN : 2000 < N) (w : Int32) : GT 0 b m (F_X9_grows N b w) (F_X10_grows N m w) := by
  rintro ⟨ψ, l, r, β, nl, nb, t, pl, rs, c0, c1, nw, wk, ni, im⟩ hV hO
  by_cases c : 0 ≤ w ∧ w ≤ 99999
  · refine Or.inl ⟨q_grows ψ l w 121 0 r, (ψ, l, r, β, nl, nb, t, pl, rs, c0, c1, nw, wk, ni, im), hV, fun Z f hC => ?_, fun Z f hM => ?_⟩
    · have hC : CA Z b f ψ l r β nl nb t pl rs c0 c1 nw wk ni im := hC
      obtain ⟨fa, sf, la, sl, bo, sb, hH, hB⟩ := hC.1
      have q := (qc_grows (N := N) (by omega) hH w).1 c
      exact hC.ask hV q
    · have hM : MA Z m f ψ l r β nl nb t pl rs c0 c1 nw wk ni im := hM
      have q := (qm_grows (N := N) (by omega) hM.1 w).1 c
      exact hM.ask hV q
  · refine Or.inr ⟨q_iae, 1, (ψ, l, r, β, nl, nb, t, pl, rs, c0, c1 + 1, nw, wk, ni, im), Or.inl ⟨rfl, rfl, rfl⟩, hV, fun Z f hC => ?_, fun Z f hM => ?_⟩
    · have hC : CA Z b f ψ l r β nl nb t pl rs c0 c1 nw wk ni im := hC
      obtain ⟨fa, sf, la, sl, bo, sb, hH, hB⟩ := hC.1
      exact hC.tz15 hV ((qc_grows (N := N) (by omega) hH w).2 c)
    · have hM : MA Z m f ψ l r β nl nb t pl rs c0 c1 nw wk ni im := hM
      exact hM.tz1 hV ((qm_grows (N := N) (by omega) hM.1 w).2 c)
theorem gt_level {N : Nat} (hN : 2000 < N) (x : Int32) : GT 0 b m (F_X9_level N b x) (F_X10_level N m x) := by
  rintro ⟨ψ, l, r, β, nl, nb, t, pl, rs, c0, c1, nw, wk, ni, im⟩ hV hO
  by_cases c : 0 ≤ x ∧ x ≤ 200
  · refine Or.inl ⟨q_level ψ x 21 0, (ψ, l, r, β, nl, nb, t, pl, rs, c0, c1, nw, wk, ni, im), hV, fun Z f hC => ?_, fun Z f hM => ?_⟩
    · have hC : CA Z b f ψ l r β nl nb t pl rs c0 c1 nw wk ni im := hC
      obtain ⟨fa, sf, la, sl, bo, sb, hH, hB⟩ := hC.1
      have q := (qc_level (N := N) (by omega) hH x).1 c
      exact hC.ask hV q
    · have hM : MA Z m f ψ l r β nl nb t pl rs c0 c1 nw wk ni im := hM
      have q := (qm_level (N := N) (by omega) hM.1 x).1 c
      exact hM.ask hV q
  · refine Or.inr ⟨q_iae, 1, (ψ, l, r, β, nl, nb, t, pl, rs, c0, c1 + 1, nw, wk, ni, im), Or.inl ⟨rfl, rfl, rfl⟩, hV, fun Z f hC => ?_, fun Z f hM => ?_⟩
    · have hC : CA Z b f ψ l r β nl nb t pl rs c0 c1 nw wk ni im := hC
      obtain ⟨fa, sf, la, sl, bo, sb, hH, hB⟩ := hC.1
      exact hC.tz15 hV ((qc_level (N := N) (by omega) hH x).2 c)
    · have hM : MA Z m f ψ l r β nl nb t pl rs c0 c1 nw wk ni im := hM
      exact hM.tz1 hV ((qm_level (N := N) (by omega) hM.1 x).2 c)
theorem gt_years {N : Nat} (hN : 2000 < N) (s n q p k w : Int32) : GT 0 b m (F_X9_years N b s n q p k w) (F_X10_years N m s n q p k w) := by
  rintro ⟨ψ, l, r, β, nl, nb, t, pl, rs, c0, c1, nw, wk, ni, im⟩ hV hO
  by_cases c : q_arey n q p k ∧ (0 ≤ w ∧ w ≤ 3)
  · refine Or.inl ⟨q_yrv r (q_years ψ l q p k n.toNatClampNeg s 0 r) w, (ψ, l, r, β, nl, nb, t, pl, rs, c0, c1, nw, wk, ni, im), hV, fun Z f hC => ?_, fun Z f hM => ?_⟩
    · have hC : CA Z b f ψ l r β nl nb t pl rs c0 c1 nw wk ni im := hC
      obtain ⟨fa, sf, la, sl, bo, sb, hH, hB⟩ := hC.1
      have q := (qc_years (N := N) (by omega) hH s n q p k w).1 c
      exact hC.ask hV q
    · have hM : MA Z m f ψ l r β nl nb t pl rs c0 c1 nw wk ni im := hM
      have q := (qm_years (N := N) (by omega) hM.1 s n q p k w).1 c
      exact hM.ask hV q
  · refine Or.inr ⟨q_iae, 1, (ψ, l, r, β, nl, nb, t, pl, rs, c0, c1 + 1, nw, wk, ni, im), Or.inl ⟨rfl, rfl, rfl⟩, hV, fun Z f hC => ?_, fun Z f hM => ?_⟩
    · have hC : CA Z b f ψ l r β nl nb t pl rs c0 c1 nw wk ni im := hC
      obtain ⟨fa, sf, la, sl, bo, sb, hH, hB⟩ := hC.1
      exact hC.tz15 hV ((qc_years (N := N) (by omega) hH s n q p k w).2 c)
    · have hM : MA Z m f ψ l r β nl nb t pl rs c0 c1 nw wk ni im := hM
      exact hM.tz1 hV ((qm_years (N := N) (by omega) hM.1 s n q p k w).2 c)
theorem gt_span {N : Nat} (hN : 2000 < N) (s u n q p k w : Int32) : GT 0 b m (F_X9_span N b s u n q p k w) (F_X10_span N m s u n q p k w) := by
  rintro ⟨ψ, l, r, β, nl, nb, t, pl, rs, c0, c1, nw, wk, ni, im⟩ hV hO
  by_cases c : q_spanc u n q p k w
  · refine Or.inl ⟨q_spv (q_span ψ l r s q p k n.toNatClampNeg u.toNatClampNeg 0 99999 0 0) w, (ψ, l, r, β, nl, nb, t, pl, rs, c0, c1, nw, wk, ni, im), hV, fun Z f hC => ?_, fun Z f hM => ?_⟩
    · have hC : CA Z b f ψ l r β nl nb t pl rs c0 c1 nw wk ni im := hC
      obtain ⟨fa, sf, la, sl, bo, sb, hH, hB⟩ := hC.1
      have q := (qc_span (N := N) (by omega) hH s u n q p k w).1 c
      exact hC.ask hV q
    · have hM : MA Z m f ψ l r β nl nb t pl rs c0 c1 nw wk ni im := hM
      have q := (qm_span (N := N) (by omega) hM.1 s u n q p k w).1 c
      exact hM.ask hV q
  · refine Or.inr ⟨q_iae, 1, (ψ, l, r, β, nl, nb, t, pl, rs, c0, c1 + 1, nw, wk, ni, im), Or.inl ⟨rfl, rfl, rfl⟩, hV, fun Z f hC => ?_, fun Z f hM => ?_⟩
    · have hC : CA Z b f ψ l r β nl nb t pl rs c0 c1 nw wk ni im := hC
      obtain ⟨fa, sf, la, sl, bo, sb, hH, hB⟩ := hC.1
      exact hC.tz15 hV ((qc_span (N := N) (by omega) hH s u n q p k w).2 c)
    · have hM : MA Z m f ψ l r β nl nb t pl rs c0 c1 nw wk ni im := hM
      exact hM.tz1 hV ((qm_span (N := N) (by omega) hM.1 s u n q p k w).2 c)
theorem gt_monk {N : Nat} (hN : 2000 < N) (x w : Int32) : GT 1 b m (F_X9_monk N b x w) (F_X10_monk N m x w) := by
  rintro ⟨ψ, l, r, β, nl, nb, t, pl, rs, c0, c1, nw, wk, ni, im⟩ hV hO
  by_cases d1 : 0 ≤ x ∧ x < ψ 0 5
  · by_cases d2 : 0 ≤ w ∧ w ≤ 3
    · obtain ⟨k, hk, rfl⟩ := q_idx d1
      refine Or.inl ⟨q_monk ψ l r k w, (ψ, l, r, β, nl, nb, t, pl, rs, c0, c1, nw, wk, ni, im), hV, fun Z f hC => ?_, fun Z f hM => ?_⟩
      · have hC : CA Z b f ψ l r β nl nb t pl rs c0 c1 nw wk ni im := hC
        obtain ⟨fa, sf, la, sl, bo, sb, hH, hB⟩ := hC.1
        exact hC.ask hV ((qc_monk (N := N) (by omega) hH (Int32.ofNat k) w).1 k hk rfl d2)
      · have hM : MA Z m f ψ l r β nl nb t pl rs c0 c1 nw wk ni im := hM
        exact hM.ask hV ((qm_monk (N := N) (by omega) hM.1 (Int32.ofNat k) w).1 k hk rfl d2)
    · refine Or.inr ⟨q_iae, 2, (ψ, l, r, β, nl, nb, t, pl, rs, c0, c1 + 1, nw, wk, ni, im), Or.inr (Or.inr (Or.inl ⟨rfl, rfl, rfl⟩)), hV, fun Z f hC => ?_, fun Z f hM => ?_⟩
      · have hC : CA Z b f ψ l r β nl nb t pl rs c0 c1 nw wk ni im := hC
        obtain ⟨fa, sf, la, sl, bo, sb, hH, hB⟩ := hC.1
        exact hC.tz15 hV ((qc_monk (N := N) (by omega) hH x w).2.2 d1 d2)
      · have hM : MA Z m f ψ l r β nl nb t pl rs c0 c1 nw wk ni im := hM
        exact hM.tz1 hV ((qm_monk (N := N) (by omega) hM.1 x w).2.2 d1 d2)
  · refine Or.inr ⟨q_nse, 1, (ψ, l, r, β, nl, nb, t, pl, rs, c0 + 1, c1, nw, wk, ni, im), Or.inr (Or.inl ⟨rfl, rfl, rfl⟩), hV, fun Z f hC => ?_, fun Z f hM => ?_⟩
    · have hC : CA Z b f ψ l r β nl nb t pl rs c0 c1 nw wk ni im := hC
      obtain ⟨fa, sf, la, sl, bo, sb, hH, hB⟩ := hC.1
      exact hC.tz14 hV ((qc_monk (N := N) (by omega) hH x w).2.1 d1)
    · have hM : MA Z m f ψ l r β nl nb t pl rs c0 c1 nw wk ni im := hM
      exact hM.tz0 hV ((qm_monk (N := N) (by omega) hM.1 x w).2.1 d1)
theorem gt_village {N : Nat} (hN : 2000 < N) (x w : Int32) : GT 1 b m (F_X9_village N b x w) (F_X10_village N m x w) := by
  rintro ⟨ψ, l, r, β, nl, nb, t, pl, rs, c0, c1, nw, wk, ni, im⟩ hV hO
  by_cases d1 : 0 ≤ x ∧ x < ψ 0 3
  · by_cases d2 : 0 ≤ w ∧ w ≤ 1
    · obtain ⟨k, hk, rfl⟩ := q_idx d1
      refine Or.inl ⟨q_village ψ r k w, (ψ, l, r, β, nl, nb, t, pl, rs, c0, c1, nw, wk, ni, im), hV, fun Z f hC => ?_, fun Z f hM => ?_⟩
      · have hC : CA Z b f ψ l r β nl nb t pl rs c0 c1 nw wk ni im := hC
        obtain ⟨fa, sf, la, sl, bo, sb, hH, hB⟩ := hC.1
        exact hC.ask hV ((qc_village N hH (Int32.ofNat k) w).1 k hk rfl d2)
      · have hM : MA Z m f ψ l r β nl nb t pl rs c0 c1 nw wk ni im := hM
        exact hM.ask hV ((qm_village N hM.1 (Int32.ofNat k) w).1 k hk rfl d2)
    · refine Or.inr ⟨q_iae, 2, (ψ, l, r, β, nl, nb, t, pl, rs, c0, c1 + 1, nw, wk, ni, im), Or.inr (Or.inr (Or.inl ⟨rfl, rfl, rfl⟩)), hV, fun Z f hC => ?_, fun Z f hM => ?_⟩
      · have hC : CA Z b f ψ l r β nl nb t pl rs c0 c1 nw wk ni im := hC
        obtain ⟨fa, sf, la, sl, bo, sb, hH, hB⟩ := hC.1
        exact hC.tz15 hV ((qc_village N hH x w).2.2 d1 d2)
      · have hM : MA Z m f ψ l r β nl nb t pl rs c0 c1 nw wk ni im := hM
        exact hM.tz1 hV ((qm_village N hM.1 x w).2.2 d1 d2)
  · refine Or.inr ⟨q_nse, 1, (ψ, l, r, β, nl, nb, t, pl, rs, c0 + 1, c1, nw, wk, ni, im), Or.inr (Or.inl ⟨rfl, rfl, rfl⟩), hV, fun Z f hC => ?_, fun Z f hM => ?_⟩
    · have hC : CA Z b f ψ l r β nl nb t pl rs c0 c1 nw wk ni im := hC
      obtain ⟨fa, sf, la, sl, bo, sb, hH, hB⟩ := hC.1
      exact hC.tz14 hV ((qc_village N hH x w).2.1 d1)
    · have hM : MA Z m f ψ l r β nl nb t pl rs c0 c1 nw wk ni im := hM
      exact hM.tz0 hV ((qm_village N hM.1 x w).2.1 d1)
theorem gt_noise {N : Nat} (hN : 2000 < N) (x w : Int32) : GT 1 b m (F_X9_noise N b x w) (F_X10_noise N m x w) := by
  rintro ⟨ψ, l, r, β, nl, nb, t, pl, rs, c0, c1, nw, wk, ni, im⟩ hV hO
  by_cases d1 : 0 ≤ x ∧ x < ψ 0 4
  · by_cases d2 : 0 ≤ w ∧ w ≤ 999
    · obtain ⟨k, hk, rfl⟩ := q_idx d1
      refine Or.inl ⟨q_noise ψ k w 0, (ψ, l, r, β, nl, nb, t, pl, rs, c0, c1, nw, wk, ni, im), hV, fun Z f hC => ?_, fun Z f hM => ?_⟩
      · have hC : CA Z b f ψ l r β nl nb t pl rs c0 c1 nw wk ni im := hC
        obtain ⟨fa, sf, la, sl, bo, sb, hH, hB⟩ := hC.1
        exact hC.ask hV ((qc_noise N hH (Int32.ofNat k) w).1 k hk rfl d2)
      · have hM : MA Z m f ψ l r β nl nb t pl rs c0 c1 nw wk ni im := hM
        exact hM.ask hV ((qm_noise N hM.1 (Int32.ofNat k) w).1 k hk rfl d2)
    · refine Or.inr ⟨q_iae, 2, (ψ, l, r, β, nl, nb, t, pl, rs, c0, c1 + 1, nw, wk, ni, im), Or.inr (Or.inr (Or.inl ⟨rfl, rfl, rfl⟩)), hV, fun Z f hC => ?_, fun Z f hM => ?_⟩
      · have hC : CA Z b f ψ l r β nl nb t pl rs c0 c1 nw wk ni im := hC
        obtain ⟨fa, sf, la, sl, bo, sb, hH, hB⟩ := hC.1
        exact hC.tz15 hV ((qc_noise N hH x w).2.2 d1 d2)
      · have hM : MA Z m f ψ l r β nl nb t pl rs c0 c1 nw wk ni im := hM
        exact hM.tz1 hV ((qm_noise N hM.1 x w).2.2 d1 d2)
  · refine Or.inr ⟨q_nse, 1, (ψ, l, r, β, nl, nb, t, pl, rs, c0 + 1, c1, nw, wk, ni, im), Or.inr (Or.inl ⟨rfl, rfl, rfl⟩), hV, fun Z f hC => ?_, fun Z f hM => ?_⟩
    · have hC : CA Z b f ψ l r β nl nb t pl rs c0 c1 nw wk ni im := hC
      obtain ⟨fa, sf, la, sl, bo, sb, hH, hB⟩ := hC.1
      exact hC.tz14 hV ((qc_noise N hH x w).2.1 d1)
    · have hM : MA Z m f ψ l r β nl nb t pl rs c0 c1 nw wk ni im := hM
      exact hM.tz0 hV ((qm_noise N hM.1 x w).2.1 d1)
theorem gt_bed {N : Nat} (hN : 2000 < N) (x w : Int32) : GT 1 b m (F_X9_bed N b x w) (F_X10_bed N m x w) := by
  rintro ⟨ψ, l, r, β, nl, nb, t, pl, rs, c0, c1, nw, wk, ni, im⟩ hV hO
  by_cases d1 : 0 ≤ x ∧ x < ψ 0 5
  · by_cases d2 : 0 ≤ w ∧ w ≤ 999
    · obtain ⟨k, hk, rfl⟩ := q_idx d1
      refine Or.inl ⟨Int32.ofNat (q_bL ψ w (ψ 0 4).toNatClampNeg (ψ 0 5).toNatClampNeg 0 0 k), (ψ, l, r, β, nl, nb, t, pl, rs, c0, c1, nw, wk, ni, im), hV, fun Z f hC => ?_, fun Z f hM => ?_⟩
      · have hC : CA Z b f ψ l r β nl nb t pl rs c0 c1 nw wk ni im := hC
        obtain ⟨fa, sf, la, sl, bo, sb, hH, hB⟩ := hC.1
        exact hC.ask hV ((qc_bed (N := N) (by omega) hH (Int32.ofNat k) w).1 k hk rfl d2)
      · have hM : MA Z m f ψ l r β nl nb t pl rs c0 c1 nw wk ni im := hM
        exact hM.ask hV ((qm_bed (N := N) (by omega) hM.1 (Int32.ofNat k) w).1 k hk rfl d2)
    · refine Or.inr ⟨q_iae, 2, (ψ, l, r, β, nl, nb, t, pl, rs, c0, c1 + 1, nw, wk, ni, im), Or.inr (Or.inr (Or.inl ⟨rfl, rfl, rfl⟩)), hV, fun Z f hC => ?_, fun Z f hM => ?_⟩
      · have hC : CA Z b f ψ l r β nl nb t pl rs c0 c1 nw wk ni im := hC
        obtain ⟨fa, sf, la, sl, bo, sb, hH, hB⟩ := hC.1
        exact hC.tz15 hV ((qc_bed (N := N) (by omega) hH x w).2.2 d1 d2)
      · have hM : MA Z m f ψ l r β nl nb t pl rs c0 c1 nw wk ni im := hM
        exact hM.tz1 hV ((qm_bed (N := N) (by omega) hM.1 x w).2.2 d1 d2)
  · refine Or.inr ⟨q_nse, 1, (ψ, l, r, β, nl, nb, t, pl, rs, c0 + 1, c1, nw, wk, ni, im), Or.inr (Or.inl ⟨rfl, rfl, rfl⟩), hV, fun Z f hC => ?_, fun Z f hM => ?_⟩
    · have hC : CA Z b f ψ l r β nl nb t pl rs c0 c1 nw wk ni im := hC
      obtain ⟨fa, sf, la, sl, bo, sb, hH, hB⟩ := hC.1
      exact hC.tz14 hV ((qc_bed (N := N) (by omega) hH x w).2.1 d1)
    · have hM : MA Z m f ψ l r β nl nb t pl rs c0 c1 nw wk ni im := hM
      exact hM.tz0 hV ((qm_bed (N := N) (by omega) hM.1 x w).2.1 d1)
theorem gt_watch {N : Nat} (hN : 2000 < N) (x w : Int32) : GT 1 b m (F_X9_watch N b x w) (F_X10_watch N m x w) := by
  rintro ⟨ψ, l, r, β, nl, nb, t, pl, rs, c0, c1, nw, wk, ni, im⟩ hV hO
  by_cases d1 : 0 ≤ x ∧ x < ψ 0 5
  · by_cases d2 : 0 ≤ w ∧ w ≤ 60
    · obtain ⟨k, hk, rfl⟩ := q_idx d1
      refine Or.inl ⟨Int32.ofNat (q_wat (q_lam ψ) (ψ 0 5).toNatClampNeg w.toNatClampNeg k), (ψ, l, r, β, nl, nb, t, pl, rs, c0, c1, nw, wk, ni, im), hV, fun Z f hC => ?_, fun Z f hM => ?_⟩
      · have hC : CA Z b f ψ l r β nl nb t pl rs c0 c1 nw wk ni im := hC
        obtain ⟨fa, sf, la, sl, bo, sb, hH, hB⟩ := hC.1
        exact hC.ask hV ((qc_watch (N := N) (by omega) hH (Int32.ofNat k) w).1 k hk rfl d2)
      · have hM : MA Z m f ψ l r β nl nb t pl rs c0 c1 nw wk ni im := hM
        exact hM.ask hV ((qm_watch (N := N) (by omega) hM.1 (Int32.ofNat k) w).1 k hk rfl d2)
    · refine Or.inr ⟨q_iae, 2, (ψ, l, r, β, nl, nb, t, pl, rs, c0, c1 + 1, nw, wk, ni, im), Or.inr (Or.inr (Or.inl ⟨rfl, rfl, rfl⟩)), hV, fun Z f hC => ?_, fun Z f hM => ?_⟩
      · have hC : CA Z b f ψ l r β nl nb t pl rs c0 c1 nw wk ni im := hC
        obtain ⟨fa, sf, la, sl, bo, sb, hH, hB⟩ := hC.1
        exact hC.tz15 hV ((qc_watch (N := N) (by omega) hH x w).2.2 d1 d2)
      · have hM : MA Z m f ψ l r β nl nb t pl rs c0 c1 nw wk ni im := hM
        exact hM.tz1 hV ((qm_watch (N := N) (by omega) hM.1 x w).2.2 d1 d2)
  · refine Or.inr ⟨q_nse, 1, (ψ, l, r, β, nl, nb, t, pl, rs, c0 + 1, c1, nw, wk, ni, im), Or.inr (Or.inl ⟨rfl, rfl, rfl⟩), hV, fun Z f hC => ?_, fun Z f hM => ?_⟩
    · have hC : CA Z b f ψ l r β nl nb t pl rs c0 c1 nw wk ni im := hC
      obtain ⟨fa, sf, la, sl, bo, sb, hH, hB⟩ := hC.1
      exact hC.tz14 hV ((qc_watch (N := N) (by omega) hH x w).2.1 d1)
    · have hM : MA Z m f ψ l r β nl nb t pl rs c0 c1 nw wk ni im := hM
      exact hM.tz0 hV ((qm_watch (N := N) (by omega) hM.1 x w).2.1 d1)
theorem gt_cell {N : Nat} (hN : 2000 < N) (x : Int32) : GT 2 b m (F_X9_cell N b x) (F_X10_cell N m x) := by
  rintro ⟨ψ, l, r, β, nl, nb, t, pl, rs, c0, c1, nw, wk, ni, im⟩ hV hO
  by_cases d1 : 0 ≤ x ∧ x < ψ 0 4
  · obtain ⟨k, hk, rfl⟩ := q_idx d1
    refine Or.inl ⟨ψ 3 k, (ψ, l, r, β, nl, nb, t, pl, rs, c0, c1, nw, wk, ni, im), hV, fun Z f hC => ?_, fun Z f hM => ?_⟩
    · have hC : CA Z b f ψ l r β nl nb t pl rs c0 c1 nw wk ni im := hC
      obtain ⟨fa, sf, la, sl, bo, sb, hH, hB⟩ := hC.1
      exact hC.ask hV ((qc_cell N hH (Int32.ofNat k)).1 k hk rfl)
    · have hM : MA Z m f ψ l r β nl nb t pl rs c0 c1 nw wk ni im := hM
      exact hM.ask hV ((qm_cell N hM.1 (Int32.ofNat k)).1 k hk rfl)
  · refine Or.inr ⟨q_nse, 1, (ψ, l, r, β, nl, nb, t, pl, rs, c0 + 1, c1, nw, wk, ni, im), Or.inr (Or.inr (Or.inr ⟨rfl, rfl, rfl⟩)), hV, fun Z f hC => ?_, fun Z f hM => ?_⟩
    · have hC : CA Z b f ψ l r β nl nb t pl rs c0 c1 nw wk ni im := hC
      obtain ⟨fa, sf, la, sl, bo, sb, hH, hB⟩ := hC.1
      exact hC.tz14 hV ((qc_cell N hH x).2 d1)
    · have hM : MA Z m f ψ l r β nl nb t pl rs c0 c1 nw wk ni im := hM
      exact hM.tz0 hV ((qm_cell N hM.1 x).2 d1)
theorem gt_heir {N : Nat} (hN : 2000 < N) (x : Int32) : GT 2 b m (F_X9_heir N b x) (F_X10_heir N m x) := by
  rintro ⟨ψ, l, r, β, nl, nb, t, pl, rs, c0, c1, nw, wk, ni, im⟩ hV hO
  by_cases d1 : 0 ≤ x ∧ x < ψ 0 6
  · obtain ⟨k, hk, rfl⟩ := q_idx d1
    refine Or.inl ⟨ψ 5 k, (ψ, l, r, β, nl, nb, t, pl, rs, c0, c1, nw, wk, ni, im), hV, fun Z f hC => ?_, fun Z f hM => ?_⟩
    · have hC : CA Z b f ψ l r β nl nb t pl rs c0 c1 nw wk ni im := hC
      obtain ⟨fa, sf, la, sl, bo, sb, hH, hB⟩ := hC.1
      exact hC.ask hV ((qc_heir N hH (Int32.ofNat k)).1 k hk rfl)
    · have hM : MA Z m f ψ l r β nl nb t pl rs c0 c1 nw wk ni im := hM
      exact hM.ask hV ((qm_heir N hM.1 (Int32.ofNat k)).1 k hk rfl)
  · refine Or.inr ⟨q_nse, 1, (ψ, l, r, β, nl, nb, t, pl, rs, c0 + 1, c1, nw, wk, ni, im), Or.inr (Or.inr (Or.inr ⟨rfl, rfl, rfl⟩)), hV, fun Z f hC => ?_, fun Z f hM => ?_⟩
    · have hC : CA Z b f ψ l r β nl nb t pl rs c0 c1 nw wk ni im := hC
      obtain ⟨fa, sf, la, sl, bo, sb, hH, hB⟩ := hC.1
      exact hC.tz14 hV ((qc_heir N hH x).2 d1)
    · have hM : MA Z m f ψ l r β nl nb t pl rs c0 c1 nw wk ni im := hM
      exact hM.tz0 hV ((qm_heir N hM.1 x).2 d1)
theorem gt_bears {N : Nat} (hN : 2000 < N) (x y : Int32) : GT 2 b m (F_X9_bears N b x y) (F_X10_bears N m x y) := by
  rintro ⟨ψ, l, r, β, nl, nb, t, pl, rs, c0, c1, nw, wk, ni, im⟩ hV hO
  by_cases d1 : (0 ≤ x ∧ x < ψ 0 5) ∧ (0 ≤ y ∧ y < ψ 0 4)
  · obtain ⟨k, hk, rfl⟩ := q_idx d1.1
    obtain ⟨c, hc, rfl⟩ := q_idx d1.2
    refine Or.inl ⟨Int32.ofNat (q_bears ψ k c 999 0), (ψ, l, r, β, nl, nb, t, pl, rs, c0, c1, nw, wk, ni, im), hV, fun Z f hC => ?_, fun Z f hM => ?_⟩
    · have hC : CA Z b f ψ l r β nl nb t pl rs c0 c1 nw wk ni im := hC
      obtain ⟨fa, sf, la, sl, bo, sb, hH, hB⟩ := hC.1
      exact hC.ask hV ((qc_bears (N := N) hN hH (Int32.ofNat k) (Int32.ofNat c)).1 k c hk hc rfl rfl)
    · have hM : MA Z m f ψ l r β nl nb t pl rs c0 c1 nw wk ni im := hM
      exact hM.ask hV ((qm_bears (N := N) hN hM.1 (Int32.ofNat k) (Int32.ofNat c)).1 k c hk hc rfl rfl)
  · refine Or.inr ⟨q_nse, 1, (ψ, l, r, β, nl, nb, t, pl, rs, c0 + 1, c1, nw, wk, ni, im), Or.inr (Or.inr (Or.inr ⟨rfl, rfl, rfl⟩)), hV, fun Z f hC => ?_, fun Z f hM => ?_⟩
    · have hC : CA Z b f ψ l r β nl nb t pl rs c0 c1 nw wk ni im := hC
      obtain ⟨fa, sf, la, sl, bo, sb, hH, hB⟩ := hC.1
      exact hC.tz14 hV ((qc_bears (N := N) hN hH x y).2 d1)
    · have hM : MA Z m f ψ l r β nl nb t pl rs c0 c1 nw wk ni im := hM
      exact hM.tz0 hV ((qm_bears (N := N) hN hM.1 x y).2 d1)
theorem gt_abbey {N : Nat} (hN : 2000 < N) (x : Int32) : GT 0 b m (F_X9_abbey N b x) (F_X10_abbey N m x) := by
  rintro ⟨ψ, l, r, β, nl, nb, t, pl, rs, c0, c1, nw, wk, ni, im⟩ hV hO
  have hnb := hV.1
  by_cases c : 0 ≤ x ∧ x ≤ Int32.ofNat nb
  · obtain ⟨n, hn, rfl⟩ := q_nn c.1 c.2 (by omega)
    rcases e : q_cls t n 601 0 q_f0 0 with z | z
    · refine Or.inl ⟨z.1 - 10, (ψ, l, r, β, nl, 0, t, z.2, rs, c0, c1, nw, wk, ni, im), ⟨by omega, hV.2⟩, fun Z f hC => ?_, fun Z f hM => ?_⟩
      · have q := (qc_abbey (N := N) hN (show CA Z b f ψ l r β nl nb t pl rs c0 c1 nw wk ni im from hC) hV (Int32.ofNat n)).1 n rfl hn
        rw [e] at q
        obtain ⟨Z1, f1, q1, q2, q3, q4⟩ := q
        exact ⟨Z1, f1, q1, q2, q3, q4⟩
      · have q := (qm_abbey (N := N) hN (show MA Z m f ψ l r β nl nb t pl rs c0 c1 nw wk ni im from hM) hV (Int32.ofNat n)).1 n rfl hn
        rw [e] at q
        obtain ⟨f1, q1, q2, q3, q4⟩ := q
        exact ⟨Z, f1, q1, q2, q3, q4, ZJ.rf _ _⟩
    · refine Or.inl ⟨z.1 0 5, (q_msk z.1, [], q_beg z.1 (z.1 0 0), fun _ => -1, 0, 0, t, -1, 0, c0, c1, 0, wk, 0, im), ⟨by omega, hV.2.1, by omega, fun w hw => absurd hw (Nat.not_lt_zero _), by omega, fun i hi => absurd hi (Nat.not_lt_zero _)⟩, fun Z f hC => ?_, fun Z f hM => ?_⟩
      · have q := (qc_abbey (N := N) hN (show CA Z b f ψ l r β nl nb t pl rs c0 c1 nw wk ni im from hC) hV (Int32.ofNat n)).1 n rfl hn
        rw [e] at q
        obtain ⟨Z1, f1, q1, q2, q3, q4⟩ := q
        exact ⟨Z1, f1, q1, q2, q3, q4⟩
      · have q := (qm_abbey (N := N) hN (show MA Z m f ψ l r β nl nb t pl rs c0 c1 nw wk ni im from hM) hV (Int32.ofNat n)).1 n rfl hn
        rw [e] at q
        obtain ⟨f1, q1, q2, q3, q4⟩ := q
        exact ⟨Z, f1, q1, q2, q3, q4, ZJ.rf _ _⟩
  · refine Or.inr ⟨q_iae, 1, (ψ, l, r, β, nl, nb, t, pl, rs, c0, c1 + 1, nw, wk, ni, im), Or.inl ⟨rfl, rfl, rfl⟩, hV, fun Z f hC => ?_, fun Z f hM => ?_⟩
    · have hC : CA Z b f ψ l r β nl nb t pl rs c0 c1 nw wk ni im := hC
      exact hC.tz15 hV ((qc_abbey (N := N) hN hC hV x).2 c)
    · have hM : MA Z m f ψ l r β nl nb t pl rs c0 c1 nw wk ni im := hM
      exact hM.tz1 hV ((qm_abbey (N := N) hN hM hV x).2 c)
theorem gt_law {N : Nat} (hN : 2000 < N) (x : Int32) : GT 0 b m (F_X9_law N b x) (F_X10_law N m x) := by
  rintro ⟨ψ, l, r, β, nl, nb, t, pl, rs, c0, c1, nw, wk, ni, im⟩ hV hO
  have hnb := hV.1
  by_cases c : 0 ≤ x ∧ x ≤ 150 ∧ x ≤ Int32.ofNat nb
  · obtain ⟨n, hn2, e⟩ := q_nn c.1 (show x ≤ Int32.ofNat 150 from c.2.1) (by omega)
    subst e
    have hn : n ≤ nb := by
      have := c.2.2
      rwa [qi_le (by omega) (by omega)] at this
    rcases e : q_law t n with z | z
    · refine Or.inl ⟨z.1 - 10, (ψ, l, r, β, nl, 0, t, z.2, rs, c0, c1, nw, wk, ni, im), ⟨by omega, hV.2⟩, fun Z f hC => ?_, fun Z f hM => ?_⟩
      · have q := (qc_law (N := N) hN (show CA Z b f ψ l r β nl nb t pl rs c0 c1 nw wk ni im from hC) hV (Int32.ofNat n)).1 n rfl hn hn2
        rw [e] at q
        obtain ⟨Z1, f1, q1, q2, q3, q4⟩ := q
        exact ⟨Z1, f1, q1, q2, q3, q4⟩
      · have q := (qm_law (N := N) hN (show MA Z m f ψ l r β nl nb t pl rs c0 c1 nw wk ni im from hM) hV (Int32.ofNat n)).1 n rfl hn hn2
        rw [e] at q
        obtain ⟨f1, q1, q2, q3, q4⟩ := q
        exact ⟨Z, f1, q1, q2, q3, q4, ZJ.rf _ _⟩
    · refine Or.inl ⟨1, (ψ, z, r, β, nl, 0, t, -1, rs, c0, c1, nw, wk, ni, im), ⟨by omega, hV.2⟩, fun Z f hC => ?_, fun Z f hM => ?_⟩
      · have q := (qc_law (N := N) hN (show CA Z b f ψ l r β nl nb t pl rs c0 c1 nw wk ni im from hC) hV (Int32.ofNat n)).1 n rfl hn hn2
        rw [e] at q
        obtain ⟨Z1, f1, q1, q2, q3, q4⟩ := q
        exact ⟨Z1, f1, q1, q2, q3, q4⟩
      · have q := (qm_law (N := N) hN (show MA Z m f ψ l r β nl nb t pl rs c0 c1 nw wk ni im from hM) hV (Int32.ofNat n)).1 n rfl hn hn2
        rw [e] at q
        obtain ⟨f1, q1, q2, q3, q4⟩ := q
        exact ⟨Z, f1, q1, q2, q3, q4, ZJ.rf _ _⟩
  · refine Or.inr ⟨q_iae, 1, (ψ, l, r, β, nl, nb, t, pl, rs, c0, c1 + 1, nw, wk, ni, im), Or.inl ⟨rfl, rfl, rfl⟩, hV, fun Z f hC => ?_, fun Z f hM => ?_⟩
    · have hC : CA Z b f ψ l r β nl nb t pl rs c0 c1 nw wk ni im := hC
      exact hC.tz15 hV ((qc_law (N := N) hN hC hV x).2 c)
    · have hM : MA Z m f ψ l r β nl nb t pl rs c0 c1 nw wk ni im := hM
      exact hM.tz1 hV ((qm_law (N := N) hN hM hV x).2 c)
theorem gt_book {N : Nat} (hN : 2000 < N) (x : Int32) : GT 0 b m (F_X9_book N b x) (F_X10_book N m x) := by
  rintro ⟨ψ, l, r, β, nl, nb, t, pl, rs, c0, c1, nw, wk, ni, im⟩ hV hO
  have hnb := hV.1
  by_cases c : 0 ≤ x ∧ x ≤ 100 ∧ x ≤ Int32.ofNat nb
  · obtain ⟨n, hn2, e⟩ := q_nn c.1 (show x ≤ Int32.ofNat 100 from c.2.1) (by omega)
    subst e
    have hn : n ≤ nb := by
      have := c.2.2
      rwa [qi_le (by omega) (by omega)] at this
    rcases e : q_book t n with z | z
    · refine Or.inl ⟨z.1 - 10, (ψ, l, r, β, nl, 0, t, z.2, rs, c0, c1, nw, wk, ni, im), ⟨by omega, hV.2⟩, fun Z f hC => ?_, fun Z f hM => ?_⟩
      · have q := (qc_book (N := N) hN (show CA Z b f ψ l r β nl nb t pl rs c0 c1 nw wk ni im from hC) hV (Int32.ofNat n)).1 n rfl hn hn2
        rw [e] at q
        obtain ⟨Z1, f1, q1, q2, q3, q4⟩ := q
        exact ⟨Z1, f1, q1, q2, q3, q4⟩
      · have q := (qm_book (N := N) hN (show MA Z m f ψ l r β nl nb t pl rs c0 c1 nw wk ni im from hM) hV (Int32.ofNat n)).1 n rfl hn hn2
        rw [e] at q
        obtain ⟨f1, q1, q2, q3, q4⟩ := q
        exact ⟨Z, f1, q1, q2, q3, q4, ZJ.rf _ _⟩
    · refine Or.inl ⟨Int32.ofNat z.2, (ψ, l, r, z.1, z.2, 0, t, -1, rs, c0, c1, nw, wk, ni, im), ⟨by omega, hV.2⟩, fun Z f hC => ?_, fun Z f hM => ?_⟩
      · have q := (qc_book (N := N) hN (show CA Z b f ψ l r β nl nb t pl rs c0 c1 nw wk ni im from hC) hV (Int32.ofNat n)).1 n rfl hn hn2
        rw [e] at q
        obtain ⟨Z1, f1, q1, q2, q3, q4⟩ := q
        exact ⟨Z1, f1, q1, q2, q3, q4⟩
      · have q := (qm_book (N := N) hN (show MA Z m f ψ l r β nl nb t pl rs c0 c1 nw wk ni im from hM) hV (Int32.ofNat n)).1 n rfl hn hn2
        rw [e] at q
        obtain ⟨f1, q1, q2, q3, q4⟩ := q
        exact ⟨Z, f1, q1, q2, q3, q4, ZJ.rf _ _⟩
  · refine Or.inr ⟨q_iae, 1, (ψ, l, r, β, nl, nb, t, pl, rs, c0, c1 + 1, nw, wk, ni, im), Or.inl ⟨rfl, rfl, rfl⟩, hV, fun Z f hC => ?_, fun Z f hM => ?_⟩
    · have hC : CA Z b f ψ l r β nl nb t pl rs c0 c1 nw wk ni im := hC
      exact hC.tz15 hV ((qc_book (N := N) hN hC hV x).2 c)
    · have hM : MA Z m f ψ l r β nl nb t pl rs c0 c1 nw wk ni im := hM
      exact hM.tz1 hV ((qm_book (N := N) hN hM hV x).2 c)
theorem gt_work {N : Nat} (hN : 2000 < N) (x : Int32) : GT 0 b m (F_X9_work N b x) (F_X10_work N m x) := by
  rintro ⟨ψ, l, r, β, nl, nb, t, pl, rs, c0, c1, nw, wk, ni, im⟩ hV hO
  have hnb := hV.1
  have hnw := hV.2.2.1
  by_cases c : 0 ≤ x ∧ x ≤ 150 ∧ x ≤ Int32.ofNat nb
  · obtain ⟨n, hn2, e⟩ := q_nn c.1 (show x ≤ Int32.ofNat 150 from c.2.1) (by omega)
    subst e
    have hn : n ≤ nb := by
      have := c.2.2
      rwa [qi_le (by omega) (by omega)] at this
    by_cases c16 : nw = 16
    · refine Or.inl ⟨-20, (ψ, l, r, β, nl, 0, t, -1, rs, c0, c1, nw, wk, ni, im), ⟨by omega, hV.2⟩, fun Z f hC => ?_, fun Z f hM => ?_⟩
      · obtain ⟨f1, q1, q2, q3⟩ := ((qc_work (N := N) hN (show CA Z b f ψ l r β nl nb t pl rs c0 c1 nw wk ni im from hC) hV (Int32.ofNat n)).1 n rfl hn hn2).1 c16
        exact ⟨Z, f1, q1, q2, q3, CZa.rf _ _⟩
      · obtain ⟨f1, q1, q2, q3, q4⟩ := ((qm_work (N := N) hN (show MA Z m f ψ l r β nl nb t pl rs c0 c1 nw wk ni im from hM) hV (Int32.ofNat n)).1 n rfl hn hn2).1 c16
        exact ⟨Z, f1, q1, q2, q3, q4, ZJ.rf _ _⟩
    have l16 : nw < 16 := by omega
    rcases e : q_RW t n ψ 9 0 0 0 with z | z
    · refine Or.inl ⟨z.1 - 10, (ψ, l, r, β, nl, 0, t, z.2, rs, c0, c1, nw, wk, ni, im), ⟨by omega, hV.2⟩, fun Z f hC => ?_, fun Z f hM => ?_⟩
      · have q := ((qc_work (N := N) hN (show CA Z b f ψ l r β nl nb t pl rs c0 c1 nw wk ni im from hC) hV (Int32.ofNat n)).1 n rfl hn hn2).2 l16
        rw [e] at q
        obtain ⟨f1, q1, q2, q3⟩ := q
        exact ⟨Z, f1, q1, q2, q3, CZa.rf _ _⟩
      · have q := ((qm_work (N := N) hN (show MA Z m f ψ l r β nl nb t pl rs c0 c1 nw wk ni im from hM) hV (Int32.ofNat n)).1 n rfl hn hn2).2 l16
        rw [e] at q
        obtain ⟨f1, q1, q2, q3, q4⟩ := q
        exact ⟨Z, f1, q1, q2, q3, q4, ZJ.rf _ _⟩
    · refine Or.inl ⟨(q_rn ψ l z.1 r).2.2.1, (ψ, l, (q_rn ψ l z.1 r).1, β, nl, 0, t, -1, (q_rn ψ l z.1 r).2.2.2, c0, c1, nw + 1, fun w => if w = nw then r else wk w, ni, im), ⟨by omega, hV.2.1, by omega, fun w hw => ?_, hV.2.2.2.2⟩, fun Z f hC => ?_, fun Z f hM => ?_⟩
      · by_cases cw : w = nw
        · simp only [if_pos cw]
          exact hO.2
        · simp only [if_neg cw]
          exact hV.2.2.2.1 w (by omega)
      · have q := ((qc_work (N := N) hN (show CA Z b f ψ l r β nl nb t pl rs c0 c1 nw wk ni im from hC) hV (Int32.ofNat n)).1 n rfl hn hn2).2 l16
        rw [e] at q
        obtain ⟨f1, q1, q2, q3⟩ := q
        exact ⟨Z, f1, q1, q2, q3, CZa.rf _ _⟩
      · have q := ((qm_work (N := N) hN (show MA Z m f ψ l r β nl nb t pl rs c0 c1 nw wk ni im from hM) hV (Int32.ofNat n)).1 n rfl hn hn2).2 l16
        rw [e] at q
        obtain ⟨f1, q1, q2, q3, q4⟩ := q
        exact ⟨Z, f1, q1, q2, q3, q4, ZJ.rf _ _⟩
  · refine Or.inr ⟨q_iae, 1, (ψ, l, r, β, nl, nb, t, pl, rs, c0, c1 + 1, nw, wk, ni, im), Or.inl ⟨rfl, rfl, rfl⟩, hV, fun Z f hC => ?_, fun Z f hM => ?_⟩
    · have hC : CA Z b f ψ l r β nl nb t pl rs c0 c1 nw wk ni im := hC
      exact hC.tz15 hV ((qc_work (N := N) hN hC hV x).2 c)
    · have hM : MA Z m f ψ l r β nl nb t pl rs c0 c1 nw wk ni im := hM
      exact hM.tz1 hV ((qm_work (N := N) hN hM hV x).2 c)
theorem gd_feed {N : Nat} (hN : 2000 < N) (v1 v2 v3 v4 v5 : Int32) : GD b m (F_X9_feed N b v1 v2 v3 v4 v5) (F_X10_feed N m v1 v2 v3 v4 v5) := by
  rintro ⟨ψ, l, r, β, nl, nb, t, pl, rs, c0, c1, nw, wk, ni, im⟩ hV hO
  by_cases c : nb + 20 ≤ 600
  · refine ⟨Int32.ofNat (nb + 20), (ψ, l, r, β, nl, nb + 20, q_fd t nb v1 v2 v3 v4 v5, pl, rs, c0, c1, nw, wk, ni, im), VA.fd hV c v1 v2 v3 v4 v5, fun Z f hC => ?_, fun Z f hM => ?_⟩
    · obtain ⟨f1, q1, q2, q3⟩ := (qc_feed (N := N) hN (show CA Z b f ψ l r β nl nb t pl rs c0 c1 nw wk ni im from hC) hV v1 v2 v3 v4 v5).1 c
      exact ⟨Z, f1, q1, q2, q3, CZa.rf _ _⟩
    · obtain ⟨f1, q1, q2, q3, q4⟩ := (qm_feed (N := N) hN (show MA Z m f ψ l r β nl nb t pl rs c0 c1 nw wk ni im from hM) hV v1 v2 v3 v4 v5).1 c
      exact ⟨Z, f1, q1, q2, q3, q4, ZJ.rf _ _⟩
  · refine ⟨-1, (ψ, l, r, β, nl, nb, t, pl, rs, c0, c1, nw, wk, ni, im), hV, fun Z f hC => ?_, fun Z f hM => ?_⟩
    · have hC : CA Z b f ψ l r β nl nb t pl rs c0 c1 nw wk ni im := hC
      exact ⟨Z, f, (qc_feed (N := N) hN hC hV v1 v2 v3 v4 v5).2 c, hC, fun _ _ => rfl, CZa.rf _ _⟩
    · have hM : MA Z m f ψ l r β nl nb t pl rs c0 c1 nw wk ni im := hM
      exact ⟨Z, _, (qm_feed (N := N) hN hM hV v1 v2 v3 v4 v5).2 c, (hM.t0 hV).1, (hM.t0 hV).2.1, (hM.t0 hV).2.2, ZJ.rf _ _⟩
theorem gd_fault {N : Nat} (hN : 2000 < N) : GD b m (F_X9_fault N b) (F_X10_fault N m) := by
  rintro ⟨ψ, l, r, β, nl, nb, t, pl, rs, c0, c1, nw, wk, ni, im⟩ hV hO
  refine ⟨pl, (ψ, l, r, β, nl, nb, t, pl, rs, c0, c1, nw, wk, ni, im), hV, fun Z f hC => ?_, fun Z f hM => ?_⟩
  · have hC : CA Z b f ψ l r β nl nb t pl rs c0 c1 nw wk ni im := hC
    exact ⟨Z, f, qc_fault (N := N) hC, hC, fun _ _ => rfl, CZa.rf _ _⟩
  · have hM : MA Z m f ψ l r β nl nb t pl rs c0 c1 nw wk ni im := hM
    exact ⟨Z, _, qm_fault (N := N) hM, (hM.t0 hV).1, (hM.t0 hV).2.1, (hM.t0 hV).2.2, ZJ.rf _ _⟩
theorem gd_status {N : Nat} (hN : 2000 < N) (x : Int32) : GD b m (F_X9_status N b x) (F_X10_status N m x) := by
  rintro ⟨ψ, l, r, β, nl, nb, t, pl, rs, c0, c1, nw, wk, ni, im⟩ hV hO
  refine ⟨q_stat c0 c1 x, (ψ, l, r, β, nl, nb, t, pl, rs, c0, c1, nw, wk, ni, im), hV, fun Z f hC => ?_, fun Z f hM => ?_⟩
  · have hC : CA Z b f ψ l r β nl nb t pl rs c0 c1 nw wk ni im := hC
    exact ⟨Z, f, qc_status (N := N) hC x, hC, fun _ _ => rfl, CZa.rf _ _⟩
  · have hM : MA Z m f ψ l r β nl nb t pl rs c0 c1 nw wk ni im := hM
    exact ⟨Z, _, qm_status (N := N) hM x, (hM.t0 hV).1, (hM.t0 hV).2.1, (hM.t0 hV).2.2, ZJ.rf _ _⟩
theorem gd_kept {N : Nat} (hN : 2000 < N) (x : Int32) : GD b m (F_X9_kept N b x) (F_X10_kept N m x) := by
  rintro ⟨ψ, l, r, β, nl, nb, t, pl, rs, c0, c1, nw, wk, ni, im⟩ hV hO
  refine ⟨q_kept ni nb nw x, (ψ, l, r, β, nl, nb, t, pl, rs, c0, c1, nw, wk, ni, im), hV, fun Z f hC => ?_, fun Z f hM => ?_⟩
  · have hC : CA Z b f ψ l r β nl nb t pl rs c0 c1 nw wk ni im := hC
    exact ⟨Z, f, qc_kept (N := N) hC x, hC, fun _ _ => rfl, CZa.rf _ _⟩
  · have hM : MA Z m f ψ l r β nl nb t pl rs c0 c1 nw wk ni im := hM
    exact ⟨Z, _, qm_kept (N := N) hM x, (hM.t0 hV).1, (hM.t0 hV).2.1, (hM.t0 hV).2.2, ZJ.rf _ _⟩
theorem gd_strokes {N : Nat} (hN : 2000 < N) : GD b m (F_X9_strokes N b) (F_X10_strokes N m) := by
  rintro ⟨ψ, l, r, β, nl, nb, t, pl, rs, c0, c1, nw, wk, ni, im⟩ hV hO
  refine ⟨q_str l r 0, (ψ, l, r, β, nl, nb, t, pl, rs, c0, c1, nw, wk, ni, im), hV, fun Z f hC => ?_, fun Z f hM => ?_⟩
  · have hC : CA Z b f ψ l r β nl nb t pl rs c0 c1 nw wk ni im := hC
    obtain ⟨fa, sf, la, sl, bo, sb, hH, hB⟩ := hC.1
    obtain ⟨f1, e, hf⟩ := qc_strokes (N := N) (by omega) hH
    have eb : f1 b = f b := hf b (by unfold scC; omega)
    exact ⟨Z, f1, e, hC.cg hV (fun x _ c => hf x fun z => c (Or.inl z)) (hC.2.1.e fun x p q => hf x (by unfold scC; omega)) (by rw [eb]) (by rw [eb]) (by rw [eb]; exact hC.2.2.2.2.2.2.2.1) (by rw [eb]; exact hC.2.2.2.2.2.2.2.2.1), fun x hx => hf x (by unfold scC; omega), CZa.rf _ _⟩
  · have hM : MA Z m f ψ l r β nl nb t pl rs c0 c1 nw wk ni im := hM
    exact hM.ask hV (qm_strokes (N := N) (by omega) hM.1)
theorem gd_undo {N : Nat} (hN : 2000 < N) : GD b m (F_X9_undo N b) (F_X10_undo N m) := by
  rintro ⟨ψ, l, r, β, nl, nb, t, pl, rs, c0, c1, nw, wk, ni, im⟩ hV hO
  by_cases c : nw = 0
  · refine ⟨-1, (ψ, l, r, β, nl, nb, t, pl, rs, c0, c1, nw, wk, ni, im), hV, fun Z f hC => ?_, fun Z f hM => ?_⟩
    · have hC : CA Z b f ψ l r β nl nb t pl rs c0 c1 nw wk ni im := hC
      exact ⟨Z, f, (qc_undo (N := N) hN hC hV).1 c, hC, fun _ _ => rfl, CZa.rf _ _⟩
    · have hM : MA Z m f ψ l r β nl nb t pl rs c0 c1 nw wk ni im := hM
      exact ⟨Z, _, (qm_undo (N := N) hN hM hV).1 c, (hM.t0 hV).1, (hM.t0 hV).2.1, (hM.t0 hV).2.2, ZJ.rf _ _⟩
  · have c9 : 0 < nw := by
      have := hV.2.2.2.2.1
      omega
    refine ⟨Int32.ofNat (nw - 1), (ψ, l, wk (nw - 1), β, nl, nb, t, pl, 0, c0, c1, nw - 1, wk, ni, im), ⟨hV.1, hV.2.1, by have := hV.2.2.1; omega, fun w hw => hV.2.2.2.1 w (by omega), hV.2.2.2.2⟩, fun Z f hC => ?_, fun Z f hM => ?_⟩
    · obtain ⟨f1, q1, q2, q3⟩ := (qc_undo (N := N) hN (show CA Z b f ψ l r β nl nb t pl rs c0 c1 nw wk ni im from hC) hV).2 c9
      exact ⟨Z, f1, q1, q2, q3, CZa.rf _ _⟩
    · obtain ⟨f1, q1, q2, q3, q4⟩ := (qm_undo (N := N) hN (show MA Z m f ψ l r β nl nb t pl rs c0 c1 nw wk ni im from hM) hV).2 c9
      exact ⟨Z, f1, q1, q2, q3, q4, ZJ.rf _ _⟩
theorem gd_image {N : Nat} (hN : 2000 < N) : GD b m (F_X9_image N b) (F_X10_image N m) := by
  rintro ⟨ψ, l, r, β, nl, nb, t, pl, rs, c0, c1, nw, wk, ni, im⟩ hV hO
  by_cases c : ni = 3
  · refine ⟨-1, (ψ, l, r, β, nl, nb, t, pl, rs, c0, c1, nw, wk, ni, im), hV, fun Z f hC => ?_, fun Z f hM => ?_⟩
    · have hC : CA Z b f ψ l r β nl nb t pl rs c0 c1 nw wk ni im := hC
      exact ⟨Z, f, (qc_image (N := N) hN hC hV).1 c, hC, fun _ _ => rfl, CZa.rf _ _⟩
    · have hM : MA Z m f ψ l r β nl nb t pl rs c0 c1 nw wk ni im := hM
      exact ⟨Z, _, (qm_image (N := N) hN hM hV).1 c, (hM.t0 hV).1, (hM.t0 hV).2.1, (hM.t0 hV).2.2, ZJ.rf _ _⟩
  · have c9 : ni < 3 := by
      have := hV.2.2.2.2.1
      omega
    refine ⟨Int32.ofNat (ni + 1), (ψ, l, r, β, nl, nb, t, pl, rs, c0, c1, nw, wk, ni + 1, q_im ni nw r wk im), VA.img hV c9 hO.2.1 hO.2.2, fun Z f hC => ?_, fun Z f hM => ?_⟩
    · obtain ⟨f1, q1, q2, q3⟩ := (qc_image (N := N) hN (show CA Z b f ψ l r β nl nb t pl rs c0 c1 nw wk ni im from hC) hV).2 c9
      exact ⟨Z, f1, q1, q2, q3, CZa.rf _ _⟩
    · obtain ⟨f1, q1, q2, q3, q4⟩ := (qm_image (N := N) hN (show MA Z m f ψ l r β nl nb t pl rs c0 c1 nw wk ni im from hM) hV).2 c9
      exact ⟨Z, f1, q1, q2, q3, q4, ZJ.rf _ _⟩
theorem gd_restore {N : Nat} (hN : 2000 < N) : GD b m (F_X9_restore N b) (F_X10_restore N m) := by
  rintro ⟨ψ, l, r, β, nl, nb, t, pl, rs, c0, c1, nw, wk, ni, im⟩ hV hO
  by_cases c : ni = 0
  · refine ⟨-1, (ψ, l, r, β, nl, nb, t, pl, rs, c0, c1, nw, wk, ni, im), hV, fun Z f hC => ?_, fun Z f hM => ?_⟩
    · have hC : CA Z b f ψ l r β nl nb t pl rs c0 c1 nw wk ni im := hC
      exact ⟨Z, f, (qc_restore (N := N) hN hC hV).1 c, hC, fun _ _ => rfl, CZa.rf _ _⟩
    · have hM : MA Z m f ψ l r β nl nb t pl rs c0 c1 nw wk ni im := hM
      exact ⟨Z, _, (qm_restore (N := N) hN hM hV).1 c, (hM.t0 hV).1, (hM.t0 hV).2.1, (hM.t0 hV).2.2, ZJ.rf _ _⟩
  · have c9 : 0 < ni := by
      have := hV.2.2.2.2.1
      omega
    refine ⟨Int32.ofNat (ni - 1), (ψ, l, (im (ni - 1)).2.1, β, nl, nb, t, pl, 0, c0, c1, (im (ni - 1)).1, (im (ni - 1)).2.2, ni - 1, im), VA.res hV c9, fun Z f hC => ?_, fun Z f hM => ?_⟩
    · obtain ⟨f1, q1, q2, q3⟩ := (qc_restore (N := N) hN (show CA Z b f ψ l r β nl nb t pl rs c0 c1 nw wk ni im from hC) hV).2 c9
      exact ⟨Z, f1, q1, q2, q3, CZa.rf _ _⟩
    · obtain ⟨f1, q1, q2, q3, q4⟩ := (qm_restore (N := N) hN (show MA Z m f ψ l r β nl nb t pl rs c0 c1 nw wk ni im from hM) hV).2 c9
      exact ⟨Z, f1, q1, q2, q3, q4, ZJ.rf _ _⟩
end
