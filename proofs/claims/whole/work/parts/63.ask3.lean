/-! sleepers, bears, level -/
theorem q_minn {i j : Nat} (hi : i < 2147483648) (hj : j < 2147483648) : q_min (Int32.ofNat i) (Int32.ofNat j) = Int32.ofNat (min i j) := by
  unfold q_min
  by_cases h : j < i
  · rw [if_pos (qi_gt h hi), Nat.min_eq_right (by omega)]
  · rw [if_neg (qi_ngt (by omega) hj), Nat.min_eq_left (by omega)]
section
variable {Z : AxS} {f : Nat → Nat → Int32} {b m fa sf la sl bo sb : Nat} {ψ : QF} {l : QL} {r : QR}
def q_slp (ψ : QF) (c : Nat) (s : Int32) (k : Nat) : Bool := decide (q_noise ψ c s 0 ≤ ψ 4 k)
theorem qc_sleeps {c k N : Nat} {s : Int32} (hfa : LFa Z fa) (hF : rdF f fa = ψ) (hw : q_fw ψ) (hc : c < (ψ 0 4).toNatClampNeg) (hk : k < (ψ 0 5).toNatClampNeg) : F_X1_sleeps N fa (Int32.ofNat k) (Int32.ofNat c) s (axM Z f) = some (if q_slp ψ c s k = true then 1 else 0, axM Z f) := by
  obtain ⟨c8, cx⟩ := q_fw_cell hw hc
  obtain ⟨nm, n8, en, et⟩ := (q_fw_n hw).2.2.1
  unfold F_X1_sleeps
  simp only [m_is hfa.1, qc_loud hfa hF hc c8 cx, axB_s, m_gr hfa.1 hfa.2.2.2.2.1.1, m_atn N hfa.2.2.2.2.1.2 (show k < 8 by omega) (by omega), rdF_4 hF hk, m_rz0, m_rz1]
  have e : q_noise ψ c s 0 = s / (1 + ψ 3 c) := by
    unfold q_noise
    rw [show (1 : Int32) + 0 = 1 by decide, Int32.div_one]
  unfold q_slp
  rw [e]
  by_cases q : ψ 4 k < s / (1 + ψ 3 c)
  · rw [if_pos q, if_neg (fun z => Int32.not_lt.mpr (of_decide_eq_true z) q)]
  · rw [if_neg q, if_pos (decide_eq_true (Int32.not_lt.mp q))]
def q_sleepers (ψ : QF) (r : QR) (s : Int32) : Nat → Int32
  | 0 => 0
  | n + 1 => if q_slp ψ (r (13 + n)).toNatClampNeg s n = true then q_sleepers ψ r s n ||| (1 <<< (Int32.ofNat n &&& 31)) else q_sleepers ψ r s n
theorem q_fw_mc {ψ : QF} (h : q_fw ψ) {c : Nat} (hc : c < (ψ 0 5).toNatClampNeg) : c < (ψ 0 4).toNatClampNeg := (q_fw_far h hc).1
theorem qc_sleepers_l {N : Nat} (hC : LCl Z b fa sf la sl bo sb) (hF : rdF f fa = ψ) (hw : q_fw ψ) (hR : rdSt f (b + 31) = r) (hok : q_ok ψ 999 r) (s : Int32) : ∀ (n j fu : Nat), j + n = (ψ 0 5).toNatClampNeg → n < fu → F_X9_sleepers_24 N fu b s (q_sleepers ψ r s j) (Int32.ofNat j) (axM Z f) = some (.inl (q_sleepers ψ r s (ψ 0 5).toNatClampNeg), axM Z f) := by
  have h0 := hC.1.1
  have pf := hC.1.2.1
  have hfa := hC.2.1.1
  have p8 := hC.2.2.2.2.2.2.2.1.1
  have hst := hC.2.2.2.2.2.2.2.1.2
  obtain ⟨nm, n8, en, et⟩ := (q_fw_n hw).2.2.1
  have e5 : f fa 5 = ψ 0 5 := rdF_0 hF (by omega)
  intro n
  induction n with
  | zero =>
    intro j fu hj hfu
    obtain ⟨fu, rfl⟩ : ∃ q, fu = q + 1 := ⟨fu - 1, by omega⟩
    show F_X9_sleepers_24b N (F_X9_sleepers_24 N fu) b s _ (Int32.ofNat j) (axM Z f) = _
    unfold F_X9_sleepers_24b
    simp only [m_gr h0 pf, m_gi hfa.1, e5]
    rw [if_pos (by rw [en]; exact qi_ge (by omega) (by omega)), show j = (ψ 0 5).toNatClampNeg by omega]
  | succ n ih =>
    intro j fu hj hfu
    obtain ⟨fu, rfl⟩ : ∃ q, fu = q + 1 := ⟨fu - 1, by omega⟩
    show F_X9_sleepers_24b N (F_X9_sleepers_24 N fu) b s _ (Int32.ofNat j) (axM Z f) = _
    unfold F_X9_sleepers_24b F_X9_sleepers_64
    have hj5 : j < (ψ 0 5).toNatClampNeg := by omega
    obtain ⟨c, hc, ec⟩ := hok.2.2.2.1 j hj5
    have ec' : f (b + 31 + 1) j = Int32.ofNat c := by rw [← rdSt_b f (b + 31) (show j < 8 by omega), hR]; exact ec
    have ect : (r (13 + j)).toNatClampNeg = c := by rw [ec, qi_tn (by omega)]
    simp only [m_gr h0 pf, m_gi hfa.1, e5, m_gr h0 p8, m_gr hst.1 hst.2.1, m_atn N hst.2.2.2.1 (show j < 8 by omega) (by omega), axB_s, ec', m_is hfa.1, qc_sleeps hfa hF hw (q_fw_mc hw hc) hj5]
    rw [if_neg (by rw [en]; exact qi_nge (by omega) (by omega)), qi_s, ← ih (j + 1) fu (by omega) (by omega)]
    show _ = F_X9_sleepers_24 N fu b s (if q_slp ψ (r (13 + j)).toNatClampNeg s j = true then _ else _) _ _
    rw [ect]
    by_cases q : q_slp ψ c s j = true
    · rw [if_pos q, if_neg (by decide), if_pos q]
    · rw [if_neg q, if_pos rfl, if_neg q]
theorem qc_sleepers {N : Nat} (hN : 200 < N) (h : HC Z b fa sf la sl bo sb f ψ l r) (s : Int32) : ((0 ≤ s ∧ s ≤ 999) → CQz Z b f (F_X9_sleepers N b s (axM Z f)) (q_sleepers ψ r s (ψ 0 5).toNatClampNeg)) ∧ (¬ (0 ≤ s ∧ s ≤ 999) → CTz Z b f (F_X9_sleepers N b s (axM Z f)) q_iae 15) := by
  obtain ⟨hC, hF, hw, hl, hlw, hR, hok⟩ := h
  have h0 := hC.1.1
  obtain ⟨nm, n8, en, et⟩ := (q_fw_n hw).2.2.1
  unfold F_X9_sleepers F_X9_sleepers_16 F_X9_sleepers_17
  simp only [m_is h0, qc_need0 N h0, qc_need1, q_rg rfl]
  refine ⟨fun c => ?_, fun c => ?_⟩
  · rw [if_pos c]
    exact CQz.mk0 (qc_sleepers_l hC hF hw hR hok s (ψ 0 5).toNatClampNeg 0 N (by omega) (by omega))
  · rw [if_neg c]
    exact CTz.mk rfl
theorem qm_sleepers_l {N : Nat} (hm : LMo Z m) (hG : rdG f m = ψ) (hw : q_fw ψ) (hR : rdM f (m + 440) = r) (hok : q_ok ψ 999 r) (s : Int32) : ∀ (n j fu : Nat), j + n = (ψ 0 5).toNatClampNeg → n < fu → F_X10_sleepers_36 N fu m s (q_sleepers ψ r s j) (Int32.ofNat j) (axM Z f) = some (q_sleepers ψ r s (ψ 0 5).toNatClampNeg, axM Z f) := by
  have h0 := hm.1
  have p12 : axP Z m 12 = some (m + 4) := hm.2.1 12 4 rfl
  have s4 : axL Z (m + 4) = some (1, 7) := hm.2.2.1 4 _ rfl
  have p27 : axP Z m 27 = some (m + 440) := hm.2.1 27 440 rfl
  have s440 : axL Z (m + 440) = some (1, 29) := hm.2.2.1 440 _ rfl
  obtain ⟨g1, g2, g3⟩ := LMo_of hm
  obtain ⟨g4, g5⟩ := g3 2 (by omega)
  obtain ⟨nm, n8, en, et⟩ := (q_fw_n hw).2.2.1
  have e5 : f (m + 4) 2 = ψ 0 5 := rdG_0 hG (show 5 < 7 by omega)
  intro n
  induction n with
  | zero =>
    intro j fu hj hfu
    obtain ⟨fu, rfl⟩ : ∃ q, fu = q + 1 := ⟨fu - 1, by omega⟩
    show F_X10_sleepers_36b N (F_X10_sleepers_36 N fu) m s _ (Int32.ofNat j) (axM Z f) = _
    unfold F_X10_sleepers_36b
    simp only [m_gr h0 p12, m_ld7_2 s4, e5]
    rw [if_pos (by rw [en]; exact qi_ge (by omega) (by omega)), show j = (ψ 0 5).toNatClampNeg by omega]
  | succ n ih =>
    intro j fu hj hfu
    obtain ⟨fu, rfl⟩ : ∃ q, fu = q + 1 := ⟨fu - 1, by omega⟩
    show F_X10_sleepers_36b N (F_X10_sleepers_36 N fu) m s _ (Int32.ofNat j) (axM Z f) = _
    unfold F_X10_sleepers_36b F_X10_sleepers_80
    have hj5 : j < (ψ 0 5).toNatClampNeg := by omega
    obtain ⟨c, hc, ec⟩ := hok.2.2.2.1 j hj5
    obtain ⟨c8, cx⟩ := q_fw_cell hw (q_fw_mc hw hc)
    have ec' : f (m + 440) (13 + j) = Int32.ofNat c := by rw [rdM_k f (m + 440) (by omega), hR]; exact ec
    have ect : (r (13 + j)).toNatClampNeg = c := by rw [ec, qi_tn (by omega)]
    have el : f (m + 13 + 2) j = ψ 4 j := rdG_4 hG hj5
    simp only [m_gr h0 p12, m_ld7_2 s4, e5, m_gr h0 p27, show (13 : Int32) + Int32.ofNat j = Int32.ofNat (13 + j) from qi_add 13 j, m_ldn s440 (show 13 + j < 29 by omega) (by omega), ec', m_is h0, qm_noiseOf hm hG (q_fw_mc hw hc) c8 cx (Or.inl rfl), axB_s, m_gr h0 g1, m_ldr_2 g2 (by omega) (by omega) g4, m_ldn g5 (show j < 8 by omega) (by omega), el, Int32.or_zero]
    rw [if_neg (by rw [en]; exact qi_nge (by omega) (by omega)), qi_s, ← ih (j + 1) fu (by omega) (by omega)]
    show _ = F_X10_sleepers_36 N fu m s (if q_slp ψ (r (13 + j)).toNatClampNeg s j = true then _ else _) _ _
    rw [ect]
    unfold q_slp
    by_cases q : ψ 4 j < q_noise ψ c s 0
    · rw [if_pos q, if_neg (fun z => Int32.not_lt.mpr (of_decide_eq_true z) q)]
    · rw [if_neg q, if_pos (decide_eq_true (Int32.not_lt.mp q))]
theorem qm_sleepers {N : Nat} (hN : 200 < N) (h : HM Z m f ψ l r) (s : Int32) : ((0 ≤ s ∧ s ≤ 999) → MQz Z m f (F_X10_sleepers N m s (axM Z f)) (q_sleepers ψ r s (ψ 0 5).toNatClampNeg)) ∧ (¬ (0 ≤ s ∧ s ≤ 999) → MTz Z m f (F_X10_sleepers N m s (axM Z f)) 1 1) := by
  obtain ⟨hm, hG, hw, hl, hlw, hR, hok, h12⟩ := h.t0
  have h0 := hm.1
  obtain ⟨nm, n8, en, et⟩ := (q_fw_n hw).2.2.1
  unfold F_X10_sleepers F_X10_sleepers_22
  simp only [m_pi h0, m_is h0, axB_s, m_in]
  refine ⟨fun c => ?_, fun c => ?_⟩
  · rw [if_pos c, if_neg (by decide), qm_badF N h0]
    exact MQz.mkf _ (qm_sleepers_l hm hG hw hR hok s (ψ 0 5).toNatClampNeg 0 N (by omega) (by omega)) (fun x _ => rfl)
  · rw [if_neg c, if_pos rfl]
    exact qm_badT1 N hm _ _
def q_bears (ψ : QF) (k c : Nat) : Nat → Nat → Nat
  | 0, j => j
  | n + 1, j => if q_slp ψ c (Int32.ofNat (j + 1)) k = true then q_bears ψ k c n (j + 1) else j
theorem qc_bears_l {N c k : Nat} (hC : LCl Z b fa sf la sl bo sb) (hF : rdF f fa = ψ) (hw : q_fw ψ) (hc : c < (ψ 0 4).toNatClampNeg) (hk : k < (ψ 0 5).toNatClampNeg) : ∀ (n j fu : Nat), j + n = 999 → n < fu → F_X9_bears_29 N fu b (Int32.ofNat k) (Int32.ofNat c) (Int32.ofNat j) (Int32.ofNat (j + 1)) (axM Z f) = some (.inl (Int32.ofNat (q_bears ψ k c n j)), axM Z f) := by
  have h0 := hC.1.1
  have pf := hC.1.2.1
  have hfa := hC.2.1.1
  intro n
  induction n with
  | zero =>
    intro j fu hj hfu
    obtain ⟨fu, rfl⟩ : ∃ q, fu = q + 1 := ⟨fu - 1, by omega⟩
    show F_X9_bears_29b N (F_X9_bears_29 N fu) b _ _ _ (Int32.ofNat (j + 1)) (axM Z f) = _
    unfold F_X9_bears_29b
    rw [if_pos (show (999 : Int32) < Int32.ofNat (j + 1) from qi_gt (i := 999) (by omega) (by omega))]
    rfl
  | succ n ih =>
    intro j fu hj hfu
    obtain ⟨fu, rfl⟩ : ∃ q, fu = q + 1 := ⟨fu - 1, by omega⟩
    show F_X9_bears_29b N (F_X9_bears_29 N fu) b _ _ _ (Int32.ofNat (j + 1)) (axM Z f) = _
    unfold F_X9_bears_29b
    rw [if_neg (show ¬ (999 : Int32) < Int32.ofNat (j + 1) from qi_ngt (i := 999) (by omega) (by omega))]
    simp only [m_gr h0 pf, m_is hfa.1, qc_sleeps hfa hF hw hc hk, axB_s, qi_s]
    show _ = some (Sum.inl (Int32.ofNat (if q_slp ψ c (Int32.ofNat (j + 1)) k = true then _ else j)), axM Z f)
    by_cases q : q_slp ψ c (Int32.ofNat (j + 1)) k = true
    · rw [if_pos q, if_neg (by decide), if_pos q]
      exact ih (j + 1) fu (by omega) (by omega)
    · rw [if_neg q, if_pos rfl, if_neg q]
theorem q_slp0 {c k : Nat} (hw : q_fw ψ) (hk : k < (ψ 0 5).toNatClampNeg) : q_slp ψ c 0 k = true := by
  unfold q_slp q_noise
  obtain ⟨⟨nv, nc, nm, nh, e1, e2, e3, e4, b1, b2, b3, b4, f1, f2, f3, f4⟩, -⟩ := hw
  rw [e3, qi_tn (by omega)] at hk
  obtain ⟨x, hx, ex⟩ := f3 k hk
  rw [show (1 : Int32) + 0 = 1 by decide, Int32.div_one, Int32.zero_div, ex]
  exact decide_eq_true (qi_ge (i := 0) (by omega) (by omega))
theorem qc_bears {N : Nat} (hN : 2000 < N) (h : HC Z b fa sf la sl bo sb f ψ l r) (x y : Int32) : (∀ k c, k < (ψ 0 5).toNatClampNeg → c < (ψ 0 4).toNatClampNeg → x = Int32.ofNat k → y = Int32.ofNat c → CQz Z b f (F_X9_bears N b x y (axM Z f)) (Int32.ofNat (q_bears ψ k c 999 0))) ∧ (¬ ((0 ≤ x ∧ x < ψ 0 5) ∧ (0 ≤ y ∧ y < ψ 0 4)) → CTz Z b f (F_X9_bears N b x y (axM Z f)) q_nse 14) := by
  obtain ⟨hC, hF, hw, hl, hlw, rfl, hok⟩ := h
  have h0 := hC.1.1
  have pf := hC.1.2.1
  have hfa := hC.2.1.1
  obtain ⟨nc, c8, enc, -⟩ := (q_fw_n hw).2.1
  obtain ⟨nm, n8, en, -⟩ := (q_fw_n hw).2.2.1
  have e4 : f fa 4 = ψ 0 4 := rdF_0 hF (by omega)
  have e5 : f fa 5 = ψ 0 5 := rdF_0 hF (by omega)
  unfold F_X9_bears
  simp only [m_gr h0 pf, m_gi hfa.1, e4, e5, m_is h0]
  refine ⟨fun k c hk hc ex ey => ?_, fun q => ?_⟩
  · subst ex
    subst ey
    have hk' : k < nm := by rw [en, qi_tn (by omega)] at hk; exact hk
    have hc' : c < nc := by rw [enc, qi_tn (by omega)] at hc; exact hc
    rw [qc_one1 N (qi_ge (i := 0) (by omega) (by omega)) (by rw [en]; exact qi_gt hk' (by omega))]
    simp only [m_gr h0 pf, m_gi hfa.1, e4, m_is h0]
    rw [qc_one1 N (qi_ge (i := 0) (by omega) (by omega)) (by rw [enc]; exact qi_gt hc' (by omega))]
    obtain ⟨N', rfl⟩ : ∃ q, N = q + 1 := ⟨N - 1, by omega⟩
    refine CQz.mk0 ?_
    show F_X9_bears_29b (N' + 1) (F_X9_bears_29 (N' + 1) N') b _ _ 0 (Int32.ofNat 0) (axM Z f) = _
    unfold F_X9_bears_29b
    rw [if_neg (show ¬ (999 : Int32) < Int32.ofNat 0 by decide)]
    simp only [m_gr h0 pf, m_is hfa.1, qc_sleeps hfa hF hw hc hk, axB_s]
    have e0 : q_slp ψ c (Int32.ofNat 0) k = true := q_slp0 hw hk
    rw [if_pos e0, if_neg (by decide), qi_s]
    exact qc_bears_l hC hF hw hc hk 999 0 N' (by omega) (by omega)
  · by_cases q1 : 0 ≤ x ∧ x < ψ 0 5
    · rw [qc_one1 N q1.1 q1.2]
      simp only [m_gr h0 pf, m_gi hfa.1, e4, m_is h0]
      rw [qc_one0 N h0 (fun z => q ⟨q1, z⟩)]
      exact CTz.mk rfl
    · rw [qc_one0 N h0 q1]
      exact CTz.mk rfl
theorem qm_bears_l {N c k : Nat} (hm : LMo Z m) (hG : rdG f m = ψ) (hw : q_fw ψ) (hc : c < (ψ 0 4).toNatClampNeg) (hk : k < (ψ 0 5).toNatClampNeg) : ∀ (n j fu : Nat), j + n = 999 → n < fu → F_X10_bears_41 N fu m (Int32.ofNat k) (Int32.ofNat c) (Int32.ofNat j) (axM Z f) = some (Int32.ofNat (q_bears ψ k c n j), axM Z f) := by
  have h0 := hm.1
  obtain ⟨g1, g2, g3⟩ := LMo_of hm
  obtain ⟨g4, g5⟩ := g3 2 (by omega)
  obtain ⟨c8, cx⟩ := q_fw_cell hw hc
  obtain ⟨nm, n8, en, et⟩ := (q_fw_n hw).2.2.1
  have el : f (m + 13 + 2) k = ψ 4 k := rdG_4 hG hk
  intro n
  induction n with
  | zero =>
    intro j fu hj hfu
    obtain ⟨fu, rfl⟩ : ∃ q, fu = q + 1 := ⟨fu - 1, by omega⟩
    show F_X10_bears_41b N (F_X10_bears_41 N fu) m _ _ (Int32.ofNat j) (axM Z f) = _
    unfold F_X10_bears_41b
    rw [if_pos (show (999 : Int32) ≤ Int32.ofNat j from qi_ge (i := 999) (by omega) (by omega))]
    rfl
  | succ n ih =>
    intro j fu hj hfu
    obtain ⟨fu, rfl⟩ : ∃ q, fu = q + 1 := ⟨fu - 1, by omega⟩
    show F_X10_bears_41b N (F_X10_bears_41 N fu) m _ _ (Int32.ofNat j) (axM Z f) = _
    unfold F_X10_bears_41b
    rw [if_neg (show ¬ (999 : Int32) ≤ Int32.ofNat j from qi_nge (i := 999) (by omega) (by omega))]
    simp only [m_is h0, qi_s, qm_noiseOf hm hG hc c8 cx (Or.inl rfl), axB_s, m_gr h0 g1, m_ldr_2 g2 (by omega) (by omega) g4, m_ldn g5 (show k < 8 by omega) (by omega), el]
    show _ = some (Int32.ofNat (if q_slp ψ c (Int32.ofNat (j + 1)) k = true then _ else j), axM Z f)
    unfold q_slp
    by_cases q : ψ 4 k < q_noise ψ c (Int32.ofNat (j + 1)) 0
    · rw [if_pos q, if_neg (fun z => Int32.not_lt.mpr (of_decide_eq_true z) q)]
    · rw [if_neg q, if_pos (decide_eq_true (Int32.not_lt.mp q))]
      exact ih (j + 1) fu (by omega) (by omega)
theorem qm_bears {N : Nat} (hN : 2000 < N) (h : HM Z m f ψ l r) (x y : Int32) : (∀ k c, k < (ψ 0 5).toNatClampNeg → c < (ψ 0 4).toNatClampNeg → x = Int32.ofNat k → y = Int32.ofNat c → MQz Z m f (F_X10_bears N m x y (axM Z f)) (Int32.ofNat (q_bears ψ k c 999 0))) ∧ (¬ ((0 ≤ x ∧ x < ψ 0 5) ∧ (0 ≤ y ∧ y < ψ 0 4)) → MTz Z m f (F_X10_bears N m x y (axM Z f)) 1 0) := by
  obtain ⟨hm, hG, hw, hl, hlw, hR, hok, h12⟩ := h.t0
  have h0 := hm.1
  obtain ⟨nc, c8, enc, -⟩ := (q_fw_n hw).2.1
  obtain ⟨nm, n8, en, -⟩ := (q_fw_n hw).2.2.1
  have e4 : ax2 f m 0 0 (m + 4) 1 = Int32.ofNat nc := (rdG_0 hG (show 4 < 7 by omega)).trans enc
  have e5 : ax2 f m 0 0 (m + 4) 2 = Int32.ofNat nm := (rdG_0 hG (show 5 < 7 by omega)).trans en
  have hno := qm_isNo (x := x) N hm (show 2 < 7 by omega) (show nm < 2147483648 by omega) e5
  have hno : F_X10_isNo N m 2 x (axM Z (ax2 f m 0 0)) = _ := hno
  have hno2 := qm_isNo (x := y) N hm (show 1 < 7 by omega) (show nc < 2147483648 by omega) e4
  have hno2 : F_X10_isNo N m 1 y (axM Z (ax2 f m 0 0)) = _ := hno2
  rw [← en] at hno
  rw [← enc] at hno2
  unfold F_X10_bears F_X10_bears_24 F_X10_bears_29
  simp only [m_pi h0, m_is h0, hno, hno2, axB_s]
  refine ⟨fun k c hk hc ex ey => ?_, fun q => ?_⟩
  · subst ex
    subst ey
    have hk' : k < nm := by rw [en, qi_tn (by omega)] at hk; exact hk
    have hc' : c < nc := by rw [enc, qi_tn (by omega)] at hc; exact hc
    have z1 : 0 ≤ Int32.ofNat k ∧ Int32.ofNat k < ψ 0 5 := ⟨qi_ge (i := 0) (by omega) (by omega), by rw [en]; exact qi_gt hk' (by omega)⟩
    have z2 : 0 ≤ Int32.ofNat c ∧ Int32.ofNat c < ψ 0 4 := ⟨qi_ge (i := 0) (by omega) (by omega), by rw [enc]; exact qi_gt hc' (by omega)⟩
    rw [if_pos z1, if_pos rfl, if_pos z2, if_pos rfl, qm_badF N h0]
    exact MQz.mkf _ (qm_bears_l hm hG hw hc hk 999 0 N (by omega) (by omega)) (fun x _ => rfl)
  · by_cases q1 : 0 ≤ x ∧ x < ψ 0 5
    · rw [if_pos q1, if_pos rfl, if_neg (fun z => q ⟨q1, z⟩), if_neg (by decide)]
      exact qm_badN N hm _ _
    · rw [if_neg q1, if_neg (by decide)]
      exact qm_badN N hm _ _
def q_lv (ψ : QF) (x : Int32) : Nat → Int32
  | 0 => 0
  | n + 1 => q_lv ψ x n + q_min x (ψ 2 n)
def q_level (ψ : QF) (x : Int32) : Nat → Nat → Int32
  | 0, _ => -1
  | n + 1, j => if q_lv ψ (Int32.ofNat j) (ψ 0 3).toNatClampNeg < x then q_level ψ x n (j + 1) else Int32.ofNat j
theorem qc_level_i {N : Nat} (hC : LCl Z b fa sf la sl bo sb) (hF : rdF f fa = ψ) (hw : q_fw ψ) (x : Int32) (y : Int32) (K : Nat → Int32 → Int32 → AxS → Option (AxT Int32)) : ∀ (n j fu : Nat), j + n = (ψ 0 3).toNatClampNeg → n < fu → F_X9_level_33 N K fu b x y (q_lv ψ y j) (Int32.ofNat j) (axM Z f) = if q_lv ψ y (ψ 0 3).toNatClampNeg < x then K b x (y + 1) (axM Z f) else some (.inl y, axM Z f) := by
  have h0 := hC.1.1
  have pf := hC.1.2.1
  have hfa := hC.2.1.1
  obtain ⟨nv, n6, en, et⟩ := (q_fw_n hw).1
  have e3 : f fa 3 = ψ 0 3 := rdF_0 hF (by omega)
  intro n
  induction n with
  | zero =>
    intro j fu hj hfu
    obtain ⟨fu, rfl⟩ : ∃ q, fu = q + 1 := ⟨fu - 1, by omega⟩
    show F_X9_level_33b N K (F_X9_level_33 N K fu) b x y _ (Int32.ofNat j) (axM Z f) = _
    unfold F_X9_level_33b
    simp only [m_gr h0 pf, m_gi hfa.1, e3]
    rw [if_pos (by rw [en]; exact qi_ge (by omega) (by omega)), show j = (ψ 0 3).toNatClampNeg by omega]
  | succ n ih =>
    intro j fu hj hfu
    obtain ⟨fu, rfl⟩ : ∃ q, fu = q + 1 := ⟨fu - 1, by omega⟩
    show F_X9_level_33b N K (F_X9_level_33 N K fu) b x y _ (Int32.ofNat j) (axM Z f) = _
    unfold F_X9_level_33b
    simp only [m_gr h0 pf, m_gi hfa.1, e3, m_gr hfa.1 hfa.2.2.1.1, m_atn N hfa.2.2.1.2 (show j < 6 by omega) (by omega), axB_s, rdF_2 hF (show j < (ψ 0 3).toNatClampNeg by omega), m_min, qi_s]
    rw [if_neg (by rw [en]; exact qi_nge (by omega) (by omega))]
    exact ih (j + 1) fu (by omega) (by omega)
theorem qc_level_o {N : Nat} (hN : 200 < N) (hC : LCl Z b fa sf la sl bo sb) (hF : rdF f fa = ψ) (hw : q_fw ψ) (x : Int32) : ∀ (n j fu : Nat), j + n = 21 → n < fu → F_X9_level_22 N fu b x (Int32.ofNat j) (axM Z f) = some (.inl (q_level ψ x n j), axM Z f) := by
  obtain ⟨nv, n6, en, et⟩ := (q_fw_n hw).1
  intro n
  induction n with
  | zero =>
    intro j fu hj hfu
    obtain ⟨fu, rfl⟩ : ∃ q, fu = q + 1 := ⟨fu - 1, by omega⟩
    show F_X9_level_22b N (F_X9_level_22 N fu) b x (Int32.ofNat j) (axM Z f) = _
    unfold F_X9_level_22b
    rw [if_pos (show (20 : Int32) < Int32.ofNat j from qi_gt (i := 20) (by omega) (by omega))]
    rfl
  | succ n ih =>
    intro j fu hj hfu
    obtain ⟨fu, rfl⟩ : ∃ q, fu = q + 1 := ⟨fu - 1, by omega⟩
    show F_X9_level_22b N (F_X9_level_22 N fu) b x (Int32.ofNat j) (axM Z f) = _
    unfold F_X9_level_22b
    rw [if_neg (show ¬ (20 : Int32) < Int32.ofNat j from qi_ngt (i := 20) (by omega) (by omega))]
    have e := qc_level_i (N := N) hC hF hw x (Int32.ofNat j) (F_X9_level_22 N fu) (ψ 0 3).toNatClampNeg 0 N (by omega) (by omega)
    refine e.trans ?_
    show _ = some (Sum.inl (if q_lv ψ (Int32.ofNat j) (ψ 0 3).toNatClampNeg < x then _ else _), axM Z f)
    by_cases q : q_lv ψ (Int32.ofNat j) (ψ 0 3).toNatClampNeg < x
    · rw [if_pos q, if_pos q, qi_s]
      exact ih (j + 1) fu (by omega) (by omega)
    · rw [if_neg q, if_neg q]
theorem qc_level {N : Nat} (hN : 200 < N) (h : HC Z b fa sf la sl bo sb f ψ l r) (x : Int32) : ((0 ≤ x ∧ x ≤ 200) → CQz Z b f (F_X9_level N b x (axM Z f)) (q_level ψ x 21 0)) ∧ (¬ (0 ≤ x ∧ x ≤ 200) → CTz Z b f (F_X9_level N b x (axM Z f)) q_iae 15) := by
  obtain ⟨hC, hF, hw, hl, hlw, hR, hok⟩ := h
  have h0 := hC.1.1
  unfold F_X9_level F_X9_level_16 F_X9_level_17
  simp only [m_is h0, qc_need0 N h0, qc_need1, q_rg rfl]
  refine ⟨fun c => ?_, fun c => ?_⟩
  · rw [if_pos c]
    exact CQz.mk0 (qc_level_o hN hC hF hw x 21 0 N (by omega) (by omega))
  · rw [if_neg c]
    exact CTz.mk rfl
theorem qm_level_i {N : Nat} (hm : LMo Z m) (hG : rdG f m = ψ) (hw : q_fw ψ) (x : Int32) (y : Int32) (K : Nat → Int32 → Int32 → AxS → Option (Int32 × AxS)) : ∀ (n j fu : Nat), j + n = (ψ 0 3).toNatClampNeg → n < fu → F_X10_level_45 N K fu m x y (q_lv ψ y j) (Int32.ofNat j) (axM Z f) = if q_lv ψ y (ψ 0 3).toNatClampNeg < x then K m x (y + 1) (axM Z f) else some (y, axM Z f) := by
  have h0 := hm.1
  have p12 : axP Z m 12 = some (m + 4) := hm.2.1 12 4 rfl
  have s4 : axL Z (m + 4) = some (1, 7) := hm.2.2.1 4 _ rfl
  obtain ⟨g1, g2, g3⟩ := LMo_of hm
  obtain ⟨g4, g5⟩ := g3 0 (by omega)
  obtain ⟨nv, n6, en, et⟩ := (q_fw_n hw).1
  have e3 : f (m + 4) 0 = ψ 0 3 := rdG_0 hG (show 3 < 7 by omega)
  intro n
  induction n with
  | zero =>
    intro j fu hj hfu
    obtain ⟨fu, rfl⟩ : ∃ q, fu = q + 1 := ⟨fu - 1, by omega⟩
    show F_X10_level_45b N K (F_X10_level_45 N K fu) m x y _ (Int32.ofNat j) (axM Z f) = _
    unfold F_X10_level_45b
    simp only [m_gr h0 p12, m_ld7_0 s4, e3]
    rw [if_pos (by rw [en]; exact qi_ge (by omega) (by omega)), show j = (ψ 0 3).toNatClampNeg by omega]
  | succ n ih =>
    intro j fu hj hfu
    obtain ⟨fu, rfl⟩ : ∃ q, fu = q + 1 := ⟨fu - 1, by omega⟩
    show F_X10_level_45b N K (F_X10_level_45 N K fu) m x y _ (Int32.ofNat j) (axM Z f) = _
    unfold F_X10_level_45b
    have el : f (m + 13 + 0) j = ψ 2 j := rdG_2 hG (by omega)
    simp only [m_gr h0 p12, m_ld7_0 s4, e3, m_gr h0 g1, m_ldr_0 g2 (by omega) (by omega) g4, m_ldn g5 (show j < 8 by omega) (by omega), el, m_less, axB_s, qi_s]
    rw [if_neg (by rw [en]; exact qi_nge (by omega) (by omega))]
    exact ih (j + 1) fu (by omega) (by omega)
theorem qm_level_o {N : Nat} (hN : 200 < N) (hm : LMo Z m) (hG : rdG f m = ψ) (hw : q_fw ψ) (x : Int32) : ∀ (n j fu : Nat), j + n = 21 → n < fu → F_X10_level_34 N fu m x (Int32.ofNat j) (axM Z f) = some (q_level ψ x n j, axM Z f) := by
  obtain ⟨nv, n6, en, et⟩ := (q_fw_n hw).1
  intro n
  induction n with
  | zero =>
    intro j fu hj hfu
    obtain ⟨fu, rfl⟩ : ∃ q, fu = q + 1 := ⟨fu - 1, by omega⟩
    show F_X10_level_34b N (F_X10_level_34 N fu) m x (Int32.ofNat j) (axM Z f) = _
    unfold F_X10_level_34b
    rw [if_pos (show (20 : Int32) < Int32.ofNat j from qi_gt (i := 20) (by omega) (by omega))]
    rfl
  | succ n ih =>
    intro j fu hj hfu
    obtain ⟨fu, rfl⟩ : ∃ q, fu = q + 1 := ⟨fu - 1, by omega⟩
    show F_X10_level_34b N (F_X10_level_34 N fu) m x (Int32.ofNat j) (axM Z f) = _
    unfold F_X10_level_34b
    rw [if_neg (show ¬ (20 : Int32) < Int32.ofNat j from qi_ngt (i := 20) (by omega) (by omega))]
    have e := qm_level_i (N := N) hm hG hw x (Int32.ofNat j) (F_X10_level_34 N fu) (ψ 0 3).toNatClampNeg 0 N (by omega) (by omega)
    refine e.trans ?_
    show _ = some ((if q_lv ψ (Int32.ofNat j) (ψ 0 3).toNatClampNeg < x then _ else _), axM Z f)
    by_cases q : q_lv ψ (Int32.ofNat j) (ψ 0 3).toNatClampNeg < x
    · rw [if_pos q, if_pos q, qi_s]
      exact ih (j + 1) fu (by omega) (by omega)
    · rw [if_neg q, if_neg q]
theorem qm_level {N : Nat} (hN : 200 < N) (h : HM Z m f ψ l r) (x : Int32) : ((0 ≤ x ∧ x ≤ 200) → MQz Z m f (F_X10_level N m x (axM Z f)) (q_level ψ x 21 0)) ∧ (¬ (0 ≤ x ∧ x ≤ 200) → MTz Z m f (F_X10_level N m x (axM Z f)) 1 1) := by
  obtain ⟨hm, hG, hw, hl, hlw, hR, hok, h12⟩ := h.t0
  have h0 := hm.1
  unfold F_X10_level F_X10_level_22
  simp only [m_pi h0, m_is h0, axB_s, m_in]
  refine ⟨fun c => ?_, fun c => ?_⟩
  · rw [if_pos c, if_neg (by decide), qm_badF N h0]
    exact MQz.mkf _ (qm_level_o hN hm hG hw x 21 0 N (by omega) (by omega)) (fun x _ => rfl)
  · rw [if_neg c, if_pos rfl]
    exact qm_badT1 N hm _ _
end
