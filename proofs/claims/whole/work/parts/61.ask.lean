/-! calls that ask what is so -/
theorem q_ltn {x : Int32} {n : Nat} (h0 : 0 ≤ x) (h : x < Int32.ofNat n) (hn : n < 2147483648) : ∃ k, k < n ∧ x = Int32.ofNat k := by
  obtain ⟨e, hb⟩ := qi_of (Int32.not_lt.mpr h0)
  refine ⟨x.toNatClampNeg, ?_, e⟩
  rw [e, qi_lt hb hn] at h
  exact h
theorem q_len {x : Int32} {n : Nat} (h0 : 0 ≤ x) (h : x ≤ Int32.ofNat n) (hn : n < 2147483648) : ∃ k, k ≤ n ∧ x = Int32.ofNat k := q_nn h0 h hn
theorem q_le1 {x : Int32} {n : Nat} (hn : n < 2147483648) : (0 ≤ x ∧ x ≤ Int32.ofNat n - 1) = (0 ≤ x ∧ x < Int32.ofNat n) := by
  refine propext ⟨fun ⟨h0, h⟩ => ⟨h0, ?_⟩, fun ⟨h0, h⟩ => ⟨h0, ?_⟩⟩
  · by_cases c : n = 0
    · subst c
      exact absurd (Int32.le_trans h0 h) (by decide)
    · rw [qi_m2 (by omega)] at h
      obtain ⟨k, hk, e⟩ := q_nn h0 h (by omega)
      rw [e]
      exact qi_gt (by omega) hn
  · obtain ⟨k, hk, e⟩ := q_ltn h0 h hn
    rw [qi_m2 (by omega), e]
    exact qi_ge (by omega) (by omega)
section
variable {Z : AxS} {f : Nat → Nat → Int32} {b m : Nat}
theorem CQz.mk {α : Type} {o : Option (AxT α)} {v : α} (f' : Nat → Nat → Int32) (h : o = some (.inl v, axM Z f')) (h2 : ∀ x, ¬ scC b x → f' x = f x) : CQz Z b f o v := ⟨f', h, h2⟩
theorem CQz.mk0 {α : Type} {o : Option (AxT α)} {v : α} (h : o = some (.inl v, axM Z f)) : CQz Z b f o v := ⟨f, h, fun _ _ => rfl⟩
theorem MQz.mkf {α : Type} {o : Option (α × AxS)} {v : α} (f' : Nat → Nat → Int32) (h : o = some (v, axM Z f')) (fr : ∀ x, ¬ scM m x → f' x = ax2 f m 0 0 x) : MQz Z m f o v := by
  have hm : f' m = ax2 f m 0 0 m := fr m (by unfold scM; omega)
  exact MQz.mk f' h (by rw [hm, ax2_k]) (fun k hk => by rw [hm, ax2_j _ _ _ _ _ (by unfold scK at hk; omega)]) (fun x hx hs => by rw [fr x hs, ax2_n _ _ _ _ hx])
theorem HM.t0 {ψ : QF} {l : QL} {r : QR} (h : HM Z m f ψ l r) : HM Z m (ax2 f m 0 0) ψ l r := by
  obtain ⟨h1, h2, h3, ⟨l1, l2, l3⟩, h5, h6, h7⟩ := h
  refine ⟨h1, ?_, h3, ⟨?_, l2, fun k q hq => ?_⟩, h5, ?_, h7⟩
  · rw [← h2]
    exact rdG_e (fun x p q => ax2_n _ _ _ _ (by omega))
  · rw [ax2_j _ _ _ _ _ (by omega)]
    exact l1
  · rw [ax2_n _ _ _ _ (by omega)]
    exact l3 k q hq
  · rw [rdM_n _ _ (by omega)]
    exact h6
theorem qm_isNo (N : Nat) (hm : LMo Z m) {j n : Nat} {x : Int32} (hj : j < 7) (hn : n < 2147483648) (h : f (m + 4) j = Int32.ofNat n) : F_X10_isNo N m (Int32.ofNat j) x (axM Z f) = some (if 0 ≤ x ∧ x < Int32.ofNat n then 0 else 1, axM Z f) := by
  have p12 : axP Z m 12 = some (m + 4) := hm.2.1 12 4 rfl
  have s4 : axL Z (m + 4) = some (1, 7) := hm.2.2.1 4 _ rfl
  unfold F_X10_isNo
  simp only [m_gr hm.1 p12, m_ldn s4 hj (by omega), h, m_in, axB_s, m_rz0, m_rz1]
  by_cases c : 0 ≤ x ∧ x < Int32.ofNat n
  · rw [if_pos c, if_pos (Eq.mpr (q_le1 hn) c), if_neg (by decide)]
  · rw [if_neg c, if_neg (fun q => c (Eq.mp (q_le1 hn) q)), if_pos rfl]
/-- how many there are: villages, cells, monks, heirs -/
theorem q_fw_n {ψ : QF} (h : q_fw ψ) : (∃ n, n ≤ 6 ∧ ψ 0 3 = Int32.ofNat n ∧ (ψ 0 3).toNatClampNeg = n) ∧ (∃ n, n ≤ 8 ∧ ψ 0 4 = Int32.ofNat n ∧ (ψ 0 4).toNatClampNeg = n) ∧ (∃ n, n ≤ 8 ∧ ψ 0 5 = Int32.ofNat n ∧ (ψ 0 5).toNatClampNeg = n) ∧ (∃ n, n ≤ 4 ∧ ψ 0 6 = Int32.ofNat n ∧ (ψ 0 6).toNatClampNeg = n) := by
  obtain ⟨⟨nv, nc, nm, nh, e1, e2, e3, e4, b1, b2, b3, b4, -⟩, -⟩ := h
  exact ⟨⟨nv, by omega, e1, by rw [e1, qi_tn (by omega)]⟩, ⟨nc, by omega, e2, by rw [e2, qi_tn (by omega)]⟩, ⟨nm, by omega, e3, by rw [e3, qi_tn (by omega)]⟩, ⟨nh, by omega, e4, by rw [e4, qi_tn (by omega)]⟩⟩
def q_many (ψ : QF) (x : Int32) : Int32 := if x = 0 then ψ 0 3 else if x = 1 then ψ 0 4 else if x = 2 then ψ 0 5 else ψ 0 6
section
variable {fa sf la sl bo sb : Nat} {ψ : QF} {l : QL} {r : QR}
theorem qc_many (N : Nat) (h : HC Z b fa sf la sl bo sb f ψ l r) (x : Int32) : ((0 ≤ x ∧ x ≤ 3) → CQz Z b f (F_X9_many N b x (axM Z f)) (q_many ψ x)) ∧ (¬ (0 ≤ x ∧ x ≤ 3) → CTz Z b f (F_X9_many N b x (axM Z f)) q_iae 15) := by
  obtain ⟨hC, hF, -, -, -, -, -⟩ := h
  have h0 := hC.1.1
  have pf := hC.1.2.1
  have sfa := hC.2.1.1.1
  unfold F_X9_many F_X9_many_14 F_X9_many_15
  refine ⟨fun c => ?_, fun c => ?_⟩
  · rw [if_neg (Int32.not_lt.mpr c.1), if_neg (Int32.not_lt.mpr c.2), m_is h0, qc_need1]
    simp only [m_gr h0 pf, m_gi sfa, rdF_0 hF (show 3 < 7 by omega), rdF_0 hF (show 4 < 7 by omega), rdF_0 hF (show 5 < 7 by omega), rdF_0 hF (show 6 < 7 by omega)]
    refine CQz.mk0 ?_
    unfold q_many
    by_cases c0 : x = 0
    · rw [if_pos c0, if_pos c0]
    rw [if_neg c0, if_neg c0]
    by_cases c1 : x = 1
    · rw [if_pos c1, if_pos c1]
    rw [if_neg c1, if_neg c1]
    by_cases c2 : x = 2
    · rw [if_pos c2, if_pos c2]
    rw [if_neg c2, if_neg c2]
  · rw [m_is h0, qc_need0 N h0]
    by_cases c1 : x < 0
    · rw [if_pos c1]
      exact CTz.mk rfl
    · rw [if_neg c1, if_pos (Int32.not_le.mp (fun q => c ⟨Int32.not_lt.mp c1, q⟩))]
      exact CTz.mk rfl
theorem qm_many (N : Nat) (h : HM Z m f ψ l r) (x : Int32) : ((0 ≤ x ∧ x ≤ 3) → MQz Z m f (F_X10_many N m x (axM Z f)) (q_many ψ x)) ∧ (¬ (0 ≤ x ∧ x ≤ 3) → MTz Z m f (F_X10_many N m x (axM Z f)) 1 1) := by
  have h' := h.t0
  obtain ⟨hm, hG, -⟩ := h'
  have h0 := hm.1
  have p12 : axP Z m 12 = some (m + 4) := hm.2.1 12 4 rfl
  have s4 : axL Z (m + 4) = some (1, 7) := hm.2.2.1 4 _ rfl
  unfold F_X10_many F_X10_many_20
  simp only [m_pi h0, m_in, axB_s, m_is h0]
  refine ⟨fun c => ?_, fun c => ?_⟩
  · rw [if_pos c, if_neg (by decide), qm_badF N h0]
    refine MQz.mkf _ ?_ (fun x _ => rfl)
    obtain ⟨k, hk, rfl⟩ := q_nn c.1 (show x ≤ Int32.ofNat 3 from c.2) (by omega)
    rw [m_gr h0 p12, m_ldn s4 (by omega) (by omega)]
    have : k = 0 ∨ k = 1 ∨ k = 2 ∨ k = 3 := by omega
    rcases this with rfl | rfl | rfl | rfl
    · rw [show ax2 f m 0 0 (m + 4) 0 = ψ 0 3 from rdG_0 hG (show 3 < 7 by omega)]
      rfl
    · rw [show ax2 f m 0 0 (m + 4) 1 = ψ 0 4 from rdG_0 hG (show 4 < 7 by omega)]
      rfl
    · rw [show ax2 f m 0 0 (m + 4) 2 = ψ 0 5 from rdG_0 hG (show 5 < 7 by omega)]
      rfl
    · rw [show ax2 f m 0 0 (m + 4) 3 = ψ 0 6 from rdG_0 hG (show 6 < 7 by omega)]
      rfl
  · rw [if_neg c, if_pos rfl]
    exact qm_badT1 N hm _ _
def q_monk (ψ : QF) (l : QL) (r : QR) (k : Nat) (w : Int32) : Int32 := if w = 0 then ψ 4 k else if w = 1 then r (13 + k) else if w = 2 then (if q_wk ψ r (q_str l r 0) k = true then 1 else 0) else r (21 + k)
theorem qc_monk {N : Nat} (hN : 200 < N) (h : HC Z b fa sf la sl bo sb f ψ l r) (x w : Int32) : (∀ k, k < (ψ 0 5).toNatClampNeg → x = Int32.ofNat k → (0 ≤ w ∧ w ≤ 3) → CQz Z b f (F_X9_monk N b x w (axM Z f)) (q_monk ψ l r k w)) ∧ (¬ (0 ≤ x ∧ x < ψ 0 5) → CTz Z b f (F_X9_monk N b x w (axM Z f)) q_nse 14) ∧ ((0 ≤ x ∧ x < ψ 0 5) → ¬ (0 ≤ w ∧ w ≤ 3) → CTz Z b f (F_X9_monk N b x w (axM Z f)) q_iae 15) := by
  obtain ⟨hC, hF, hw, hl, hlw, rfl, hok⟩ := h
  have h0 := hC.1.1
  have pf := hC.1.2.1
  have hfa := hC.2.1.1
  have p8 := hC.2.2.2.2.2.2.2.1.1
  have hst := hC.2.2.2.2.2.2.2.1.2
  have dla := hC.2.2.2.1
  have dfa := hC.2.2.1
  obtain ⟨nm, n8, en, et⟩ := (q_fw_n hw).2.2.1
  have e5 : f fa 5 = ψ 0 5 := rdF_0 hF (by omega)
  unfold F_X9_monk F_X9_monk_26 F_X9_monk_27
  simp only [m_gr h0 pf, m_gi hfa.1, e5, m_is h0]
  refine ⟨fun k hk ex c => ?_, fun c => ?_, fun c1 c2 => ?_⟩
  · subst ex
    have hk8 : k < 8 := by omega
    rw [qc_one1 N (qi_ge (i := 0) (by omega) (by omega)) (by rw [en]; exact qi_gt (by omega) (by omega)), if_neg (Int32.not_lt.mpr c.1), if_neg (Int32.not_lt.mpr c.2), m_is h0, qc_need1]
    unfold q_monk
    by_cases w0 : w = 0
    · rw [if_pos w0, if_pos w0]
      simp only [m_gr h0 pf, m_gr hfa.1 hfa.2.2.2.2.1.1, m_atn N hfa.2.2.2.2.1.2 hk8 (by omega), axB_s, rdF_4 hF hk]
      exact CQz.mk0 rfl
    rw [if_neg w0, if_neg w0]
    by_cases w1 : w = 1
    · rw [if_pos w1, if_pos w1]
      simp only [m_gr h0 p8, m_gr hst.1 hst.2.1, m_atn N hst.2.2.2.1 hk8 (by omega), axB_s]
      refine CQz.mk0 ?_
      rw [rdSt_b _ _ hk8]
    rw [if_neg w1, if_neg w1]
    by_cases w2 : w = 2
    · rw [if_pos w2, if_pos w2]
      obtain ⟨f1, e, fr⟩ := qc_strokesOf hN hC hst (by omega) hl hlw 0
      have R1 : rdSt f1 (b + 31) = rdSt f (b + 31) := rdSt_e (fr _ (by omega) (by omega)) (fr _ (by omega) (by omega)) (fr _ (by omega) (by omega))
      have hF1 : rdF f1 fa = ψ := by
        rw [← hF]
        exact rdF_e (fun x h1 h2 => fr x (by omega) (by omega))
      have hwk := qc_wakes (f := f1) (N := N) (s := q_str l (rdSt f (b + 31)) 0) (m := k) hC hst hF1 hw hk (by rw [R1]; exact hok.2.2.2.1 k hk) (by rw [R1]; exact hok.2.1)
      rw [R1] at hwk
      simp only [m_gr h0 p8, e, axB_s, m_is h0, hwk]
      refine CQz.mk f1 ?_ (fun x hx => fr x (by unfold scC at hx; omega) (by unfold scC at hx; omega))
      by_cases q : q_wk ψ (rdSt f (b + 31)) (q_str l (rdSt f (b + 31)) 0) k = true
      · rw [if_pos q, if_neg (by decide)]
      · rw [if_neg q, if_pos rfl]
    rw [if_neg w2, if_neg w2]
    simp only [m_gr h0 p8, m_gr hst.1 hst.2.2.1, m_atn N hst.2.2.2.2 hk8 (by omega), axB_s]
    refine CQz.mk0 ?_
    rw [rdSt_w _ _ hk8]
  · rw [qc_one0 N h0 c]
    exact CTz.mk rfl
  · rw [qc_one1 N c1.1 c1.2, m_is h0, qc_need0 N h0]
    by_cases q : w < 0
    · rw [if_pos q]
      exact CTz.mk rfl
    · rw [if_neg q, if_pos (Int32.not_le.mp (fun z => c2 ⟨Int32.not_lt.mp q, z⟩))]
      exact CTz.mk rfl
theorem qm_monk {N : Nat} (hN : 200 < N) (h : HM Z m f ψ l r) (x w : Int32) : (∀ k, k < (ψ 0 5).toNatClampNeg → x = Int32.ofNat k → (0 ≤ w ∧ w ≤ 3) → MQz Z m f (F_X10_monk N m x w (axM Z f)) (q_monk ψ l r k w)) ∧ (¬ (0 ≤ x ∧ x < ψ 0 5) → MTz Z m f (F_X10_monk N m x w (axM Z f)) 1 0) ∧ ((0 ≤ x ∧ x < ψ 0 5) → ¬ (0 ≤ w ∧ w ≤ 3) → MTz Z m f (F_X10_monk N m x w (axM Z f)) 2 1) := by
  obtain ⟨hm, hG, hw, hl, hlw, hR, hok, h12⟩ := h.t0
  have h0 := hm.1
  have p27 : axP Z m 27 = some (m + 440) := hm.2.1 27 440 rfl
  have s440 : axL Z (m + 440) = some (1, 29) := hm.2.2.1 440 _ rfl
  obtain ⟨g1, g2, g3⟩ := LMo_of hm
  obtain ⟨g4, g5⟩ := g3 2 (by omega)
  obtain ⟨nm, n8, en, et⟩ := (q_fw_n hw).2.2.1
  have e5 : ax2 f m 0 0 (m + 4) 2 = Int32.ofNat nm := (rdG_0 hG (show 5 < 7 by omega)).trans en
  have hno := qm_isNo (x := x) N hm (show 2 < 7 by omega) (show nm < 2147483648 by omega) e5
  have hno : F_X10_isNo N m 2 x (axM Z (ax2 f m 0 0)) = _ := hno
  unfold F_X10_monk F_X10_monk_35
  rw [← en] at hno
  simp only [m_pi h0, m_is h0, hno, axB_s, m_in]
  refine ⟨fun k hk ex c => ?_, fun c => ?_, fun c1 c2 => ?_⟩
  · subst ex
    have hk8 : k < 8 := by omega
    rw [if_pos ⟨qi_ge (i := 0) (by omega) (by omega), by rw [en]; exact qi_gt (by omega) (by omega)⟩, qm_badF N h0, if_pos c, if_neg (by decide), m_is h0, qm_badF N h0]
    unfold q_monk
    by_cases w0 : w = 0
    · rw [if_pos w0, if_pos w0]
      simp only [m_gr h0 g1, m_ldr_2 g2 (by omega) (by omega) g4, m_ldn g5 hk8 (by omega)]
      refine MQz.mkf _ ?_ (fun x _ => rfl)
      rw [show ax2 f m 0 0 (m + 13 + 2) k = ψ 4 k from rdG_4 hG hk]
    rw [if_neg w0, if_neg w0]
    by_cases w1 : w = 1
    · rw [if_pos w1, if_pos w1]
      simp only [m_gr h0 p27, show (13 : Int32) + Int32.ofNat k = Int32.ofNat (13 + k) from qi_add 13 k, m_ldn s440 (show 13 + k < 29 by omega) (by omega)]
      refine MQz.mkf _ ?_ (fun x _ => rfl)
      rw [rdM_k (ax2 f m 0 0) (m + 440) (by omega), hR]
    rw [if_neg w1, if_neg w1]
    by_cases w2 : w = 2
    · rw [if_pos w2, if_pos w2]
      obtain ⟨f1, e, fr⟩ := qm_strokesOf hN hm s440 (by omega) hl hlw
      have R1 : rdM f1 (m + 440) = r := by
        rw [← hR]
        exact rdM_e (fun j _ => by rw [fr _ (by omega) (by omega)])
      have hG1 : rdG f1 m = ψ := by
        rw [← hG]
        exact rdG_e (fun x h1 h2 => fr x (by omega) (by omega))
      rw [hR, h12] at e
      have hwk := qm_isWaking (f := f1) (N := N) (s := q_str l r 0) (k := k) hm s440 hG1 hw hk (by rw [R1]; exact hok.2.2.2.1 k hk) (by rw [R1]; exact hok.2.1)
      rw [R1] at hwk
      simp only [m_gr h0 p27, e, axB_s, m_is h0, hwk]
      refine MQz.mkf f1 ?_ (fun x hx => fr x (by unfold scM at hx; omega) (by unfold scM at hx; omega))
      by_cases q : q_wk ψ r (q_str l r 0) k = true
      · rw [if_pos q, if_neg (by decide)]
      · rw [if_neg q, if_pos rfl]
    rw [if_neg w2, if_neg w2]
    simp only [m_gr h0 p27, show (21 : Int32) + Int32.ofNat k = Int32.ofNat (21 + k) from qi_add 21 k, m_ldn s440 (show 21 + k < 29 by omega) (by omega)]
    refine MQz.mkf _ ?_ (fun x _ => rfl)
    rw [rdM_k (ax2 f m 0 0) (m + 440) (by omega), hR]
  · rw [if_neg c]
    exact qm_badN N hm _ _
  · rw [if_pos c1, qm_badF N h0, if_neg c2, if_pos rfl, m_is h0]
    exact qm_badT2 N hm _ _
end
end
