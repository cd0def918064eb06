/-! one step done, the model's -/
section
variable {Z : AxS} {m N i : Nat} {g : Nat → Nat → Int32} {ψ : QF} {l : QL} {r : QR} {q : QE}
theorem HM.now {r' : QR} {g' : Nat → Nat → Int32} (h : HM Z m g ψ l r) (e : ∀ x, ¬ (x = m + 357 ∨ x = m + 358 ∨ x = m + 440) → g' x = g x) (hR : rdM g' (m + 440) = r') (hok : q_ok ψ 999 r') (h12 : r' 12 = 0) : HM Z m g' ψ l r' := by
  obtain ⟨hm, hG, hw, ⟨l1, l2, l3⟩, hlw, -, -, -⟩ := h
  refine ⟨hm, ?_, hw, ⟨by rw [e m (by omega), l1], l2, fun k q hq => ?_⟩, hlw, hR, hok, h12⟩
  · rw [← hG]
    exact rdG_x fun x hx => e x (by omega)
  · have := (List.getElem?_eq_some_iff.mp hq).1
    rw [e _ (by omega)]
    exact l3 k q hq
theorem qm_dos (hN : 2000 < N) (h : HM Z m g ψ l r) (hv : q_evl ψ q) (hq : q.1 < 6) (hi : i < 80) (hE : SEm g m i q) : ∃ g', F_X10_does N m (m + 440) (m + 360 + i) (axM Z g) = some (if (q_dos ψ l q r).1 = true then 1 else 0, axM Z g') ∧ HM Z m g' ψ l (q_dos ψ l q r).2 ∧ ∀ z, ¬ (z = m + 357 ∨ z = m + 358 ∨ z = m + 440) → g' z = g z := by
  have hH := h
  obtain ⟨hm, hG, hw, hl, hlw, hR, hok, h12⟩ := h
  obtain ⟨OK, O12⟩ := q_dos_ok (l := l) hw hok h12 hv hq
  obtain ⟨-, v0, v1, v4, -⟩ := hv
  obtain ⟨⟨nv, n1, n2, n3⟩, -, ⟨nm, m1, m2, m3⟩, -⟩ := q_fw_n hw
  obtain ⟨-, -, o3, -⟩ := hok
  obtain ⟨E0, E1, E2, -⟩ := hE
  have h0 := hm.1
  have ha : axL Z (m + 440) = some (1, 29) := hm.2.2.1 440 _ rfl
  obtain ⟨-, sr⟩ : axP Z (m + 359) i = some (m + 360 + i) ∧ axL Z (m + 360 + i) = some (1, 4) := hm.2.2.2 359 80 4 rfl i hi
  have rk : ∀ k, k < 29 → g (m + 440) k = r k := fun k hk => by rw [← hR]; exact rdM_k g _ hk
  unfold F_X10_does
  rw [m_ldk_0 sr (by omega), E0]
  unfold q_dos at OK O12 ⊢
  by_cases c0 : q.1 = 0
  · rw [if_pos c0] at OK O12 ⊢
    obtain ⟨f1, e1, g1, r1⟩ := qm_pays (f := g) (N := N) ha (Int32.ofNat q.2.1)
    rw [hR] at e1 g1
    rw [if_pos (show Int32.ofNat q.1 = 0 by rw [c0]; rfl), m_ldk_1 sr (by omega), E1 (by omega) (by omega), e1, axB_s, m_rz q_if10]
    exact ⟨f1, rfl, hH.now (fun z hz => r1 z (by omega)) g1 OK O12, fun z hz => r1 z (by omega)⟩
  rw [if_neg c0] at OK O12 ⊢
  rw [if_neg (show ¬ Int32.ofNat q.1 = 0 from qi_ne (j := 0) (by omega) (by omega) (by omega))]
  by_cases c1 : q.1 = 1
  · rw [if_pos c1] at OK O12 ⊢
    have a1 := v1 c1
    obtain ⟨f1, e1, g1, r1⟩ := qm_gives (f := g) (N := N) (j := q.2.1) (x := ψ 2 q.2.1) hm ha (by omega) (by omega) (rdG_2 hG a1)
    rw [hR] at e1 g1
    rw [if_pos (show Int32.ofNat q.1 = 1 by rw [c1]; rfl), m_ldk_1 sr (by omega), E1 (by omega) (by omega), m_is h0, e1, axB_s, m_rz q_if01]
    refine ⟨f1, ?_, hH.now (fun z hz => r1 z (by omega)) g1 OK O12, fun z hz => r1 z (by omega)⟩
    by_cases cb : q_bit (r 11) (Int32.ofNat q.2.1) = 1
    · rw [if_pos cb, if_neg (by rw [decide_eq_true_eq]; exact fun z => z cb)]
    · rw [if_neg cb, if_pos (decide_eq_true cb)]
  rw [if_neg c1] at OK O12 ⊢
  rw [if_neg (show ¬ Int32.ofNat q.1 = 1 from qi_ne (j := 1) (by omega) (by omega) (by omega))]
  by_cases c2 : q.1 = 2
  · rw [if_pos c2] at OK O12 ⊢
    rw [if_pos (show Int32.ofNat q.1 = 2 by rw [c2]; rfl), m_ld29_5 ha, rk 5 (by omega)]
    by_cases cb : r 5 = 1
    · rw [if_pos cb, m_rz0]
      have es : q_set r 5 1 = r := q_set_c r _ cb
      refine ⟨g, by rw [if_neg (by rw [decide_eq_true_eq]; exact fun z => z cb)], ?_, fun _ _ => rfl⟩
      show HM Z m g ψ l (q_set r 5 1)
      rw [es]
      exact hH
    · rw [if_neg cb, m_st29_5 ha, m_rz1]
      exact ⟨_, by rw [if_pos (decide_eq_true cb)], hH.now (fun z hz => ax2_n _ _ _ _ (by omega)) (by rw [rdM_w _ _ _ (by omega), hR]) OK O12, fun z hz => ax2_n _ _ _ _ (by omega)⟩
  rw [if_neg c2] at OK O12 ⊢
  rw [if_neg (show ¬ Int32.ofNat q.1 = 2 from qi_ne (j := 2) (by omega) (by omega) (by omega))]
  by_cases c3 : q.1 = 3
  · rw [if_pos c3] at OK O12 ⊢
    rw [if_pos (show Int32.ofNat q.1 = 3 by rw [c3]; rfl), m_ld29_7 ha, rk 7 (by omega)]
    rcases o3 with ⟨r6, r7⟩ | ⟨r6, n, k1, k2, r7⟩
    · have cb : r 6 ≤ 0 := by rw [r6]; decide
      simp only [if_pos cb] at OK O12 ⊢
      rw [if_pos (show r 7 ≤ 0 by rw [r7]; decide), m_ldk_1 sr (by omega), E1 (by omega) (by omega), m_st29_6 ha, m_st29_7 ha, m_rz1]
      exact ⟨_, by rw [if_pos (decide_eq_true cb)], hH.now (fun z hz => by rw [ax2_n _ _ _ _ (by omega), ax2_n _ _ _ _ (by omega)]) (by rw [rdM_w _ _ _ (by omega), rdM_w _ _ _ (by omega), hR]) OK O12, fun z hz => by rw [ax2_n _ _ _ _ (by omega), ax2_n _ _ _ _ (by omega)]⟩
    · have cb : ¬ r 6 ≤ 0 := Int32.not_le.mpr r6
      simp only [if_neg cb] at OK O12 ⊢
      rw [if_neg (show ¬ r 7 ≤ 0 by rw [r7]; exact qi_nge (j := 0) (by omega) (by omega)), m_rz0]
      exact ⟨g, by rw [if_neg (by rw [decide_eq_true_eq]; exact cb)], hH, fun _ _ => rfl⟩
  rw [if_neg c3] at OK O12 ⊢
  rw [if_neg (show ¬ Int32.ofNat q.1 = 3 from qi_ne (j := 3) (by omega) (by omega) (by omega))]
  by_cases c4 : q.1 = 4
  · rw [if_pos c4] at OK O12 ⊢
    obtain ⟨a1, a2⟩ := v4 c4
    have x1 := E1 (by omega) (by omega)
    have x2 := E2 c4
    have e13 : ∀ j : Nat, (13 : Int32) + Int32.ofNat j = Int32.ofNat (13 + j) := fun j => qi_add 13 j
    have nr : m + 360 + i ≠ m + 440 := by omega
    rw [if_pos (show Int32.ofNat q.1 = 4 by rw [c4]; rfl), m_ldk_1 sr (by omega), x1, e13, m_ldn ha (show 13 + q.2.1 < 29 by omega) (by omega), m_ldk_1 sr (by omega), x1, m_ldk_2 sr (by omega), x2, e13, m_ldn ha (show 13 + q.2.2.1 < 29 by omega) (by omega), e13, m_stn ha (show 13 + q.2.1 < 29 by omega) (by omega), m_ldk_2 sr (by omega), ax2_n _ _ _ _ nr, x2, e13, m_stn ha (show 13 + q.2.2.1 < 29 by omega) (by omega), m_ldk_1 sr (by omega), ax2_n _ _ _ _ nr, ax2_n _ _ _ _ nr, x1, m_ldk_2 sr (by omega), ax2_n _ _ _ _ nr, ax2_n _ _ _ _ nr, x2, rk _ (by omega), rk _ (by omega)]
    have R : rdM (ax2 (ax2 g (m + 440) (13 + q.2.1) (r (13 + q.2.2.1))) (m + 440) (13 + q.2.2.1) (r (13 + q.2.1))) (m + 440) = q_swap q.2.1 q.2.2.1 r := by
      rw [rdM_w _ _ _ (by omega), rdM_w _ _ _ (by omega), hR]
      rfl
    have fr : ∀ z, ¬ (z = m + 357 ∨ z = m + 358 ∨ z = m + 440) → ax2 (ax2 g (m + 440) (13 + q.2.1) (r (13 + q.2.2.1))) (m + 440) (13 + q.2.2.1) (r (13 + q.2.1)) z = g z := fun z hz => by rw [ax2_n _ _ _ _ (by omega), ax2_n _ _ _ _ (by omega)]
    by_cases cb : q.2.1 = q.2.2.1
    · rw [if_pos (show Int32.ofNat q.2.1 = Int32.ofNat q.2.2.1 by rw [cb]), m_rz0]
      exact ⟨_, by rw [if_neg (by rw [decide_eq_true_eq]; exact fun z => z cb)], hH.now fr R OK O12, fr⟩
    · rw [if_neg (qi_ne cb (by omega) (by omega)), m_rz1]
      exact ⟨_, by rw [if_pos (decide_eq_true cb)], hH.now fr R OK O12, fr⟩
  rw [if_neg c4] at OK O12 ⊢
  rw [if_neg (show ¬ Int32.ofNat q.1 = 4 from qi_ne (j := 4) (by omega) (by omega) (by omega)), m_ld29_2 ha, rk 2 (by omega)]
  by_cases c9 : r 2 < 999
  · obtain ⟨f1, e1, g1, r1⟩ := qm_nightEnds (N := N) (f := g) (by omega) hm ha (Or.inl ⟨by omega, by omega, by omega⟩) hG hw hl hlw (show 999 < 2147483647 by omega) (by rw [hR]; exact hH.2.2.2.2.2.2.1)
    rw [hR, h12] at g1
    simp only [if_pos c9] at OK O12 ⊢
    rw [m_is h0, e1, axBV_s, m_rz1]
    exact ⟨f1, by rw [if_pos (decide_eq_true c9)], hH.now (fun z hz => r1 z (by omega) (by omega) (by omega)) g1 OK O12, fun z hz => r1 z (by omega) (by omega) (by omega)⟩
  · simp only [if_neg c9] at OK O12 ⊢
    rw [m_rz0]
    exact ⟨g, by rw [if_neg (by rw [decide_eq_true_eq]; exact c9)], hH, fun _ _ => rfl⟩
end
