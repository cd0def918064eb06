/-! village, cell, heir, strokes, would, noise -/
section
variable {Z : AxS} {f : Nat → Nat → Int32} {b m fa sf la sl bo sb : Nat} {ψ : QF} {l : QL} {r : QR}
def q_village (ψ : QF) (r : QR) (k : Nat) (w : Int32) : Int32 := if w = 0 then ψ 2 k else q_bit (r 11) (Int32.ofNat k)
theorem qc_village (N : Nat) (h : HC Z b fa sf la sl bo sb f ψ l r) (x w : Int32) : (∀ k, k < (ψ 0 3).toNatClampNeg → x = Int32.ofNat k → (0 ≤ w ∧ w ≤ 1) → CQz Z b f (F_X9_village N b x w (axM Z f)) (q_village ψ r k w)) ∧ (¬ (0 ≤ x ∧ x < ψ 0 3) → CTz Z b f (F_X9_village N b x w (axM Z f)) q_nse 14) ∧ ((0 ≤ x ∧ x < ψ 0 3) → ¬ (0 ≤ w ∧ w ≤ 1) → CTz Z b f (F_X9_village N b x w (axM Z f)) q_iae 15) := by
  obtain ⟨hC, hF, hw, hl, hlw, rfl, hok⟩ := h
  have h0 := hC.1.1
  have pf := hC.1.2.1
  have hfa := hC.2.1.1
  have p8 := hC.2.2.2.2.2.2.2.1.1
  have hst := hC.2.2.2.2.2.2.2.1.2
  obtain ⟨nv, n6, en, et⟩ := (q_fw_n hw).1
  have e3 : f fa 3 = ψ 0 3 := rdF_0 hF (by omega)
  unfold F_X9_village F_X9_village_26 F_X9_village_27
  simp only [m_gr h0 pf, m_gi hfa.1, e3, m_is h0]
  refine ⟨fun k hk ex c => ?_, fun c => ?_, fun c1 c2 => ?_⟩
  · subst ex
    rw [qc_one1 N (qi_ge (i := 0) (by omega) (by omega)) (by rw [en]; exact qi_gt (by omega) (by omega)), if_neg (Int32.not_lt.mpr c.1), if_neg (Int32.not_lt.mpr c.2), m_is h0, qc_need1]
    unfold q_village
    by_cases w0 : w = 0
    · rw [if_pos w0, if_pos w0]
      simp only [m_gr h0 pf, m_gr hfa.1 hfa.2.2.1.1, m_atn N hfa.2.2.1.2 (show k < 6 by omega) (by omega), axB_s, rdF_2 hF hk]
      exact CQz.mk0 rfl
    rw [if_neg w0, if_neg w0]
    simp only [m_gr h0 p8, m_gi hst.1]
    exact CQz.mk0 rfl
  · rw [qc_one0 N h0 c]
    exact CTz.mk rfl
  · rw [qc_one1 N c1.1 c1.2, m_is h0, qc_need0 N h0]
    by_cases q : w < 0
    · rw [if_pos q]
      exact CTz.mk rfl
    · rw [if_neg q, if_pos (Int32.not_le.mp (fun z => c2 ⟨Int32.not_lt.mp q, z⟩))]
      exact CTz.mk rfl
theorem qm_village (N : Nat) (h : HM Z m f ψ l r) (x w : Int32) : (∀ k, k < (ψ 0 3).toNatClampNeg → x = Int32.ofNat k → (0 ≤ w ∧ w ≤ 1) → MQz Z m f (F_X10_village N m x w (axM Z f)) (q_village ψ r k w)) ∧ (¬ (0 ≤ x ∧ x < ψ 0 3) → MTz Z m f (F_X10_village N m x w (axM Z f)) 1 0) ∧ ((0 ≤ x ∧ x < ψ 0 3) → ¬ (0 ≤ w ∧ w ≤ 1) → MTz Z m f (F_X10_village N m x w (axM Z f)) 2 1) := by
  obtain ⟨hm, hG, hw, hl, hlw, hR, hok, h12⟩ := h.t0
  have h0 := hm.1
  have p27 : axP Z m 27 = some (m + 440) := hm.2.1 27 440 rfl
  have s440 : axL Z (m + 440) = some (1, 29) := hm.2.2.1 440 _ rfl
  obtain ⟨g1, g2, g3⟩ := LMo_of hm
  obtain ⟨g4, g5⟩ := g3 0 (by omega)
  obtain ⟨nv, n6, en, et⟩ := (q_fw_n hw).1
  have e3 : ax2 f m 0 0 (m + 4) 0 = Int32.ofNat nv := (rdG_0 hG (show 3 < 7 by omega)).trans en
  have hno := qm_isNo (x := x) N hm (show 0 < 7 by omega) (show nv < 2147483648 by omega) e3
  have hno : F_X10_isNo N m 0 x (axM Z (ax2 f m 0 0)) = _ := hno
  rw [← en] at hno
  unfold F_X10_village F_X10_village_35
  simp only [m_pi h0, m_is h0, hno, axB_s, m_in]
  refine ⟨fun k hk ex c => ?_, fun c => ?_, fun c1 c2 => ?_⟩
  · subst ex
    rw [if_pos ⟨qi_ge (i := 0) (by omega) (by omega), by rw [en]; exact qi_gt (by omega) (by omega)⟩, qm_badF N h0, if_pos c, if_neg (by decide), m_is h0, qm_badF N h0]
    unfold q_village
    by_cases w0 : w = 0
    · rw [if_pos w0, if_pos w0]
      simp only [m_gr h0 g1, m_ldr_0 g2 (by omega) (by omega) g4, m_ldn g5 (show k < 8 by omega) (by omega)]
      refine MQz.mkf _ ?_ (fun x _ => rfl)
      rw [show ax2 f m 0 0 (m + 13 + 0) k = ψ 2 k from rdG_2 hG hk]
    rw [if_neg w0, if_neg w0]
    simp only [m_gr h0 p27, m_ld29_11 s440]
    refine MQz.mkf _ ?_ (fun x _ => rfl)
    rw [rdM_k (ax2 f m 0 0) (m + 440) (show 11 < 29 by omega), hR]
    rfl
  · rw [if_neg c]
    exact qm_badN N hm _ _
  · rw [if_pos c1, qm_badF N h0, if_neg c2, if_pos rfl, m_is h0]
    exact qm_badT2 N hm _ _
theorem qc_cell (N : Nat) (h : HC Z b fa sf la sl bo sb f ψ l r) (x : Int32) : (∀ k, k < (ψ 0 4).toNatClampNeg → x = Int32.ofNat k → CQz Z b f (F_X9_cell N b x (axM Z f)) (ψ 3 k)) ∧ (¬ (0 ≤ x ∧ x < ψ 0 4) → CTz Z b f (F_X9_cell N b x (axM Z f)) q_nse 14) := by
  obtain ⟨hC, hF, hw, hl, hlw, rfl, hok⟩ := h
  have h0 := hC.1.1
  have pf := hC.1.2.1
  have hfa := hC.2.1.1
  obtain ⟨nc, n8, en, et⟩ := (q_fw_n hw).2.1
  have e4 : f fa 4 = ψ 0 4 := rdF_0 hF (by omega)
  unfold F_X9_cell
  simp only [m_gr h0 pf, m_gi hfa.1, e4, m_is h0]
  refine ⟨fun k hk ex => ?_, fun c => ?_⟩
  · subst ex
    rw [qc_one1 N (qi_ge (i := 0) (by omega) (by omega)) (by rw [en]; exact qi_gt (by omega) (by omega))]
    simp only [m_gr h0 pf, m_gr hfa.1 hfa.2.2.2.1.1, m_atn N hfa.2.2.2.1.2 (show k < 8 by omega) (by omega), axB_s, rdF_3 hF hk]
    exact CQz.mk0 rfl
  · rw [qc_one0 N h0 c]
    exact CTz.mk rfl
theorem qm_cell (N : Nat) (h : HM Z m f ψ l r) (x : Int32) : (∀ k, k < (ψ 0 4).toNatClampNeg → x = Int32.ofNat k → MQz Z m f (F_X10_cell N m x (axM Z f)) (ψ 3 k)) ∧ (¬ (0 ≤ x ∧ x < ψ 0 4) → MTz Z m f (F_X10_cell N m x (axM Z f)) 1 0) := by
  obtain ⟨hm, hG, hw, hl, hlw, hR, hok, h12⟩ := h.t0
  have h0 := hm.1
  obtain ⟨g1, g2, g3⟩ := LMo_of hm
  obtain ⟨g4, g5⟩ := g3 1 (by omega)
  obtain ⟨nc, n8, en, et⟩ := (q_fw_n hw).2.1
  have e4 : ax2 f m 0 0 (m + 4) 1 = Int32.ofNat nc := (rdG_0 hG (show 4 < 7 by omega)).trans en
  have hno := qm_isNo (x := x) N hm (show 1 < 7 by omega) (show nc < 2147483648 by omega) e4
  have hno : F_X10_isNo N m 1 x (axM Z (ax2 f m 0 0)) = _ := hno
  rw [← en] at hno
  unfold F_X10_cell
  simp only [m_pi h0, m_is h0, hno, axB_s, m_in]
  refine ⟨fun k hk ex => ?_, fun c => ?_⟩
  · subst ex
    rw [if_pos ⟨qi_ge (i := 0) (by omega) (by omega), by rw [en]; exact qi_gt (by omega) (by omega)⟩, qm_badF N h0]
    simp only [m_gr h0 g1, m_ldr_1 g2 (by omega) (by omega) g4, m_ldn g5 (show k < 8 by omega) (by omega)]
    refine MQz.mkf _ ?_ (fun x _ => rfl)
    rw [show ax2 f m 0 0 (m + 13 + 1) k = ψ 3 k from rdG_3 hG hk]
  · rw [if_neg c]
    exact qm_badN N hm _ _
theorem qc_heir (N : Nat) (h : HC Z b fa sf la sl bo sb f ψ l r) (x : Int32) : (∀ k, k < (ψ 0 6).toNatClampNeg → x = Int32.ofNat k → CQz Z b f (F_X9_heir N b x (axM Z f)) (ψ 5 k)) ∧ (¬ (0 ≤ x ∧ x < ψ 0 6) → CTz Z b f (F_X9_heir N b x (axM Z f)) q_nse 14) := by
  obtain ⟨hC, hF, hw, hl, hlw, rfl, hok⟩ := h
  have h0 := hC.1.1
  have pf := hC.1.2.1
  have hfa := hC.2.1.1
  obtain ⟨nh, n4, en, et⟩ := (q_fw_n hw).2.2.2
  have e6 : f fa 6 = ψ 0 6 := rdF_0 hF (by omega)
  unfold F_X9_heir
  simp only [m_gr h0 pf, m_gi hfa.1, e6, m_is h0]
  refine ⟨fun k hk ex => ?_, fun c => ?_⟩
  · subst ex
    rw [qc_one1 N (qi_ge (i := 0) (by omega) (by omega)) (by rw [en]; exact qi_gt (by omega) (by omega))]
    simp only [m_gr h0 pf, m_gr hfa.1 hfa.2.2.2.2.2.1, m_atn N hfa.2.2.2.2.2.2 (show k < 4 by omega) (by omega), axB_s, rdF_5 hF hk]
    exact CQz.mk0 rfl
  · rw [qc_one0 N h0 c]
    exact CTz.mk rfl
theorem qm_heir (N : Nat) (h : HM Z m f ψ l r) (x : Int32) : (∀ k, k < (ψ 0 6).toNatClampNeg → x = Int32.ofNat k → MQz Z m f (F_X10_heir N m x (axM Z f)) (ψ 5 k)) ∧ (¬ (0 ≤ x ∧ x < ψ 0 6) → MTz Z m f (F_X10_heir N m x (axM Z f)) 1 0) := by
  obtain ⟨hm, hG, hw, hl, hlw, hR, hok, h12⟩ := h.t0
  have h0 := hm.1
  obtain ⟨g1, g2, g3⟩ := LMo_of hm
  obtain ⟨g4, g5⟩ := g3 3 (by omega)
  obtain ⟨nh, n4, en, et⟩ := (q_fw_n hw).2.2.2
  have e6 : ax2 f m 0 0 (m + 4) 3 = Int32.ofNat nh := (rdG_0 hG (show 6 < 7 by omega)).trans en
  have hno := qm_isNo (x := x) N hm (show 3 < 7 by omega) (show nh < 2147483648 by omega) e6
  have hno : F_X10_isNo N m 3 x (axM Z (ax2 f m 0 0)) = _ := hno
  rw [← en] at hno
  unfold F_X10_heir
  simp only [m_pi h0, m_is h0, hno, axB_s, m_in]
  refine ⟨fun k hk ex => ?_, fun c => ?_⟩
  · subst ex
    rw [if_pos ⟨qi_ge (i := 0) (by omega) (by omega), by rw [en]; exact qi_gt (by omega) (by omega)⟩, qm_badF N h0]
    simp only [m_gr h0 g1, m_ldr_3 g2 (by omega) (by omega) g4, m_ldn g5 (show k < 8 by omega) (by omega)]
    refine MQz.mkf _ ?_ (fun x _ => rfl)
    rw [show ax2 f m 0 0 (m + 13 + 3) k = ψ 5 k from rdG_5 hG hk]
  · rw [if_neg c]
    exact qm_badN N hm _ _
theorem qc_strokes {N : Nat} (hN : 200 < N) (h : HC Z b fa sf la sl bo sb f ψ l r) : ∃ f', F_X9_strokes N b (axM Z f) = some (q_str l r 0, axM Z f') ∧ ∀ x, ¬ scC b x → f' x = f x := by
  obtain ⟨hC, hF, hw, hl, hlw, rfl, hok⟩ := h
  have h0 := hC.1.1
  have p8 := hC.2.2.2.2.2.2.2.1.1
  have hst := hC.2.2.2.2.2.2.2.1.2
  have dla := hC.2.2.2.1
  unfold F_X9_strokes
  obtain ⟨f1, e, fr⟩ := qc_strokesOf hN hC hst (by omega) hl hlw 0
  simp only [m_gr h0 p8, m_is h0, e, axB_s]
  exact ⟨f1, rfl, fun x hx => fr x (by unfold scC at hx; omega) (by unfold scC at hx; omega)⟩
theorem qm_strokes {N : Nat} (hN : 200 < N) (h : HM Z m f ψ l r) : MQz Z m f (F_X10_strokes N m (axM Z f)) (q_str l r 0) := by
  obtain ⟨hm, hG, hw, hl, hlw, hR, hok, h12⟩ := h.t0
  have h0 := hm.1
  have p27 : axP Z m 27 = some (m + 440) := hm.2.1 27 440 rfl
  have s440 : axL Z (m + 440) = some (1, 29) := hm.2.2.1 440 _ rfl
  unfold F_X10_strokes
  obtain ⟨f1, e, fr⟩ := qm_strokesOf hN hm s440 (by omega) hl hlw
  rw [hR, h12] at e
  simp only [m_pi h0, m_gr h0 p27, m_is h0, e, axB_s]
  exact MQz.mkf f1 rfl (fun x hx => fr x (by unfold scM at hx; omega) (by unfold scM at hx; omega))
def q_wouldc (v1 v2 v3 v4 v5 v6 v7 : Int32) : Prop := (0 ≤ v1 ∧ v1 ≤ 99999) ∧ (0 ≤ v2 ∧ v2 ≤ 999) ∧ (0 ≤ v3 ∧ v3 ≤ 999) ∧ (0 ≤ v4 ∧ v4 ≤ 999) ∧ (0 ≤ v5 ∧ v5 ≤ 1) ∧ (0 ≤ v6 ∧ v6 ≤ 1) ∧ (0 ≤ v7 ∧ v7 ≤ 9999)
def q_sev (v1 v2 v3 v4 v5 v6 v7 : Int32) : QR := fun k => match k with
  | 0 => v1
  | 1 => v2
  | 2 => v3
  | 3 => v4
  | 4 => v5
  | 5 => v6
  | 6 => v7
  | _ => 0
/-- a bound that is asked for in two steps -/
theorem q_rg {α : Type} {x y z : Int32} {A B C : α} (hA : A = C) : (if x < y then A else (if z < x then A else B)) = if y ≤ x ∧ x ≤ z then B else C := by
  subst hA
  by_cases c1 : x < y
  · rw [if_pos c1, if_neg (fun q => Int32.not_lt.mpr q.1 c1)]
  · rw [if_neg c1]
    by_cases c2 : z < x
    · rw [if_pos c2, if_neg (fun q => Int32.not_lt.mpr q.2 c2)]
    · rw [if_neg c2, if_pos ⟨Int32.not_lt.mp c1, Int32.not_lt.mp c2⟩]
theorem qc_would {N : Nat} (hN : 200 < N) (h : HC Z b fa sf la sl bo sb f ψ l r) (v1 v2 v3 v4 v5 v6 v7 : Int32) : (q_wouldc v1 v2 v3 v4 v5 v6 v7 → CQz Z b f (F_X9_would N b v1 v2 v3 v4 v5 v6 v7 (axM Z f)) (q_toll l (q_sev v1 v2 v3 v4 v5 v6 v7))) ∧ (¬ q_wouldc v1 v2 v3 v4 v5 v6 v7 → CTz Z b f (F_X9_would N b v1 v2 v3 v4 v5 v6 v7 (axM Z f)) q_iae 15) := by
  obtain ⟨hC, hF, hw, hl, hlw, rfl, hok⟩ := h
  have h0 := hC.1.1
  have pla := hC.1.2.2.2.1
  have hla := hC.2.1.2.2.1
  have dla := hC.2.2.2.1
  unfold F_X9_would F_X9_would_26 F_X9_would_27 F_X9_would_59 F_X9_would_60 F_X9_would_90 F_X9_would_91 F_X9_would_112 F_X9_would_113
  have T : ∀ (K : Unit → AxS → Option (AxT Int32)), ax_is (axM Z f) b 9 (axBT (F_X9_needArgument N b 0 (axM Z f)) K) = some (.inr q_iae, axM (axS0 Z) (ax2 f b 15 (f b 15 + 1))) := fun K => by rw [m_is h0, qc_need0 N h0]
  have O : ∀ (K : Unit → AxS → Option (AxT Int32)), ax_is (axM Z f) b 9 (axBT (F_X9_needArgument N b 1 (axM Z f)) K) = K () (axM Z f) := fun K => by rw [m_is h0, qc_need1]
  simp only [T, O]
  refine ⟨fun c => ?_, fun c => ?_⟩
  · obtain ⟨c1, c2, c3, c4, c5, c6, c7⟩ := c
    rw [if_neg (Int32.not_lt.mpr c1.1), if_neg (Int32.not_lt.mpr c1.2), if_neg (Int32.not_lt.mpr c2.1), if_neg (Int32.not_lt.mpr c2.2), if_neg (Int32.not_lt.mpr c3.1), if_neg (Int32.not_lt.mpr c3.2), if_neg (Int32.not_lt.mpr c4.1), if_neg (Int32.not_lt.mpr c4.2), if_neg (Int32.not_lt.mpr c5.1), if_neg (Int32.not_lt.mpr c5.2), if_neg (Int32.not_lt.mpr c6.1), if_neg (Int32.not_lt.mpr c6.2), if_neg (Int32.not_lt.mpr c7.1), if_neg (Int32.not_lt.mpr c7.2)]
    obtain ⟨f1, e, fr⟩ := qc_tolls hN hla hl hlw v1 v2 v3 v4 v5 v6 v7 (q_sev v1 v2 v3 v4 v5 v6 v7) ⟨rfl, rfl, rfl, rfl, rfl, rfl, rfl⟩
    simp only [m_gr h0 pla, m_is hla.1, e, axB_s]
    exact CQz.mk f1 rfl (fun x hx => fr x (by unfold scC at hx; omega) (by unfold scC at hx; omega))
  · refine CTz.mk ?_
    simp only [q_rg rfl]
    by_cases c1 : 0 ≤ v1 ∧ v1 ≤ 99999
    · rw [if_pos c1]
      by_cases c2 : 0 ≤ v2 ∧ v2 ≤ 999
      · rw [if_pos c2]
        by_cases c3 : 0 ≤ v3 ∧ v3 ≤ 999
        · rw [if_pos c3]
          by_cases c4 : 0 ≤ v4 ∧ v4 ≤ 999
          · rw [if_pos c4]
            by_cases c5 : 0 ≤ v5 ∧ v5 ≤ 1
            · rw [if_pos c5]
              by_cases c6 : 0 ≤ v6 ∧ v6 ≤ 1
              · rw [if_pos c6]
                by_cases c7 : 0 ≤ v7 ∧ v7 ≤ 9999
                · exact absurd ⟨c1, c2, c3, c4, c5, c6, c7⟩ c
                · rw [if_neg c7]
              · rw [if_neg c6]
            · rw [if_neg c5]
          · rw [if_neg c4]
        · rw [if_neg c3]
      · rw [if_neg c2]
    · rw [if_neg c1]
theorem qm_would {N : Nat} (hN : 200 < N) (h : HM Z m f ψ l r) (v1 v2 v3 v4 v5 v6 v7 : Int32) : (q_wouldc v1 v2 v3 v4 v5 v6 v7 → MQz Z m f (F_X10_would N m v1 v2 v3 v4 v5 v6 v7 (axM Z f)) (q_toll l (q_sev v1 v2 v3 v4 v5 v6 v7))) ∧ (¬ q_wouldc v1 v2 v3 v4 v5 v6 v7 → MTz Z m f (F_X10_would N m v1 v2 v3 v4 v5 v6 v7 (axM Z f)) 1 1) := by
  obtain ⟨hm, hG, hw, hl, hlw, hR, hok, h12⟩ := h.t0
  have h0 := hm.1
  have p24 : axP Z m 24 = some (m + 358) := hm.2.1 24 358 rfl
  have s358 : axL Z (m + 358) = some (1, 7) := hm.2.2.1 358 _ rfl
  unfold F_X10_would F_X10_would_83 F_X10_would_88
  simp only [m_pi h0, m_in, axB_s, m_is h0]
  refine ⟨fun c => ?_, fun c => ?_⟩
  · obtain ⟨c1, c2, c3, c4, c5, c6, c7⟩ := c
    rw [if_pos c1, if_neg (by decide), if_pos c2, if_neg (by decide), if_pos c3, if_neg (by decide), if_pos c4, if_neg (by decide), if_pos c5, if_neg (by decide), if_pos c6, if_neg (by decide), if_pos c7, if_neg (by decide), qm_badF N h0]
    simp only [m_gr h0 p24, m_st7_0 s358, m_st7_1 s358, m_st7_2 s358, m_st7_3 s358, m_st7_4 s358, m_st7_5 s358, m_st7_6 s358, m_is h0]
    obtain ⟨f1, e, fr⟩ := qm_byLaw (N := N) (f := ax2 (ax2 (ax2 (ax2 (ax2 (ax2 (ax2 (ax2 f m 0 0) (m + 358) 0 v1) (m + 358) 1 v2) (m + 358) 2 v3) (m + 358) 3 v4) (m + 358) 4 v5) (m + 358) 5 v6) (m + 358) 6 v7) hN hm (l := l) (by
      obtain ⟨l1, l2, l3⟩ := hl
      refine ⟨by simp only [ax2_n _ _ _ _ (show m ≠ m + 358 by omega)]; exact l1, l2, fun k q hq => ?_⟩
      have := (List.getElem?_eq_some_iff.mp hq).1
      simp only [ax2_n _ _ _ _ (show m + 18 + k ≠ m + 358 by omega)]
      exact l3 k q hq) hlw (q_sev v1 v2 v3 v4 v5 v6 v7) (fun k hk => by
      have : k = 0 ∨ k = 1 ∨ k = 2 ∨ k = 3 ∨ k = 4 ∨ k = 5 ∨ k = 6 := by omega
      rcases this with rfl | rfl | rfl | rfl | rfl | rfl | rfl <;> simp [ax2_a, q_sev])
    simp only [e, axB_s]
    exact MQz.mkf f1 rfl (fun x hx => by
      rw [fr x (by unfold scM at hx; omega)]
      have : x ≠ m + 358 := by unfold scM at hx; omega
      simp only [ax2_n _ _ _ _ this])
  · by_cases c1 : 0 ≤ v1 ∧ v1 ≤ 99999
    · rw [if_pos c1, if_neg (by decide)]
      by_cases c2 : 0 ≤ v2 ∧ v2 ≤ 999
      · rw [if_pos c2, if_neg (by decide)]
        by_cases c3 : 0 ≤ v3 ∧ v3 ≤ 999
        · rw [if_pos c3, if_neg (by decide)]
          by_cases c4 : 0 ≤ v4 ∧ v4 ≤ 999
          · rw [if_pos c4, if_neg (by decide)]
            by_cases c5 : 0 ≤ v5 ∧ v5 ≤ 1
            · rw [if_pos c5, if_neg (by decide)]
              by_cases c6 : 0 ≤ v6 ∧ v6 ≤ 1
              · rw [if_pos c6, if_neg (by decide)]
                by_cases c7 : 0 ≤ v7 ∧ v7 ≤ 9999
                · exact absurd ⟨c1, c2, c3, c4, c5, c6, c7⟩ c
                · rw [if_neg c7, if_pos rfl]
                  exact qm_badT1 N hm _ _
              · rw [if_neg c6, if_pos rfl]
                exact qm_badT1 N hm _ _
            · rw [if_neg c5, if_pos rfl]
              exact qm_badT1 N hm _ _
          · rw [if_neg c4, if_pos rfl]
            exact qm_badT1 N hm _ _
        · rw [if_neg c3, if_pos rfl]
          exact qm_badT1 N hm _ _
      · rw [if_neg c2, if_pos rfl]
        exact qm_badT1 N hm _ _
    · rw [if_neg c1, if_pos rfl]
      exact qm_badT1 N hm _ _
theorem q_fw_cell {ψ : QF} (h : q_fw ψ) {c : Nat} (hc : c < (ψ 0 4).toNatClampNeg) : c < 8 ∧ ∃ x, x ≤ 9 ∧ ψ 3 c = Int32.ofNat x := by
  obtain ⟨⟨nv, nc, nm, nh, e1, e2, e3, e4, b1, b2, b3, b4, f1, f2, f3, f4⟩, -⟩ := h
  rw [e2, qi_tn (by omega)] at hc
  exact ⟨by omega, f2 c (by omega)⟩
theorem qc_noise (N : Nat) (h : HC Z b fa sf la sl bo sb f ψ l r) (x s : Int32) : (∀ k, k < (ψ 0 4).toNatClampNeg → x = Int32.ofNat k → (0 ≤ s ∧ s ≤ 999) → CQz Z b f (F_X9_noise N b x s (axM Z f)) (q_noise ψ k s 0)) ∧ (¬ (0 ≤ x ∧ x < ψ 0 4) → CTz Z b f (F_X9_noise N b x s (axM Z f)) q_nse 14) ∧ ((0 ≤ x ∧ x < ψ 0 4) → ¬ (0 ≤ s ∧ s ≤ 999) → CTz Z b f (F_X9_noise N b x s (axM Z f)) q_iae 15) := by
  obtain ⟨hC, hF, hw, hl, hlw, rfl, hok⟩ := h
  have h0 := hC.1.1
  have pf := hC.1.2.1
  have hfa := hC.2.1.1
  obtain ⟨nc, n8, en, et⟩ := (q_fw_n hw).2.1
  have e4 : f fa 4 = ψ 0 4 := rdF_0 hF (by omega)
  unfold F_X9_noise F_X9_noise_28 F_X9_noise_29
  simp only [m_gr h0 pf, m_gi hfa.1, e4, m_is h0]
  refine ⟨fun k hk ex c => ?_, fun c => ?_, fun c1 c2 => ?_⟩
  · subst ex
    obtain ⟨k8, kx⟩ := q_fw_cell hw hk
    rw [qc_one1 N (qi_ge (i := 0) (by omega) (by omega)) (by rw [en]; exact qi_gt (by omega) (by omega)), if_neg (Int32.not_lt.mpr c.1), if_neg (Int32.not_lt.mpr c.2), m_is h0, qc_need1]
    simp only [m_gr h0 pf, m_is hfa.1, qc_loud hfa hF hk k8 kx, axB_s]
    refine CQz.mk0 ?_
    unfold q_noise
    rw [show (1 : Int32) + 0 = 1 by decide, Int32.div_one]
  · rw [qc_one0 N h0 c]
    exact CTz.mk rfl
  · rw [qc_one1 N c1.1 c1.2, m_is h0, qc_need0 N h0]
    by_cases q : s < 0
    · rw [if_pos q]
      exact CTz.mk rfl
    · rw [if_neg q, if_pos (Int32.not_le.mp (fun z => c2 ⟨Int32.not_lt.mp q, z⟩))]
      exact CTz.mk rfl
theorem qm_noise (N : Nat) (h : HM Z m f ψ l r) (x s : Int32) : (∀ k, k < (ψ 0 4).toNatClampNeg → x = Int32.ofNat k → (0 ≤ s ∧ s ≤ 999) → MQz Z m f (F_X10_noise N m x s (axM Z f)) (q_noise ψ k s 0)) ∧ (¬ (0 ≤ x ∧ x < ψ 0 4) → MTz Z m f (F_X10_noise N m x s (axM Z f)) 1 0) ∧ ((0 ≤ x ∧ x < ψ 0 4) → ¬ (0 ≤ s ∧ s ≤ 999) → MTz Z m f (F_X10_noise N m x s (axM Z f)) 2 1) := by
  obtain ⟨hm, hG, hw, hl, hlw, hR, hok, h12⟩ := h.t0
  have h0 := hm.1
  obtain ⟨nc, n8, en, et⟩ := (q_fw_n hw).2.1
  have e4 : ax2 f m 0 0 (m + 4) 1 = Int32.ofNat nc := (rdG_0 hG (show 4 < 7 by omega)).trans en
  have hno := qm_isNo (x := x) N hm (show 1 < 7 by omega) (show nc < 2147483648 by omega) e4
  have hno : F_X10_isNo N m 1 x (axM Z (ax2 f m 0 0)) = _ := hno
  rw [← en] at hno
  unfold F_X10_noise F_X10_noise_37
  simp only [m_pi h0, m_is h0, hno, axB_s, m_in]
  refine ⟨fun k hk ex c => ?_, fun c => ?_, fun c1 c2 => ?_⟩
  · subst ex
    obtain ⟨k8, kx⟩ := q_fw_cell hw hk
    rw [if_pos ⟨qi_ge (i := 0) (by omega) (by omega), by rw [en]; exact qi_gt (by omega) (by omega)⟩, qm_badF N h0, if_pos c, if_neg (by decide), m_is h0, qm_badF N h0]
    simp only [m_is h0, qm_noiseOf hm hG hk k8 kx (Or.inl rfl), axB_s]
    exact MQz.mkf _ rfl (fun x _ => rfl)
  · rw [if_neg c]
    exact qm_badN N hm _ _
  · rw [if_pos c1, qm_badF N h0, if_neg c2, if_pos rfl, m_is h0]
    exact qm_badT2 N hm _ _
end
