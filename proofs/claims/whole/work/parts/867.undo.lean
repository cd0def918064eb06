/-! undo -/
section
variable {Z : AxS} {b m N : Nat} {f : Nat → Nat → Int32} {ψ : QF} {l : QL} {r β : QR} {nl nb : Nat} {t : QR} {pl rs c0 c1 : Int32} {nw : Nat} {wk : Nat → QR} {ni : Nat} {im : QI}
theorem qc_undo (hN : 2000 < N) (h : CA Z b f ψ l r β nl nb t pl rs c0 c1 nw wk ni im) (hV : VA ψ nb t nw wk ni im) : (nw = 0 → F_X9_undo N b (axM Z f) = some (-1, axM Z f)) ∧ (0 < nw → ∃ f', F_X9_undo N b (axM Z f) = some (Int32.ofNat (nw - 1), axM Z f') ∧ CA Z b f' ψ l (wk (nw - 1)) β nl nb t pl 0 c0 c1 (nw - 1) wk ni im ∧ CFa b f f') := by
  obtain ⟨⟨fa, sf, la, sl, bo, sb, hH, hB⟩, hK, hT, k1, k2, k3, k4, k5, k6, k7, k8, k9, k10⟩ := h
  obtain ⟨-, -, hnw, hwk, hni, him⟩ := hV
  have hC := hH.1
  have a0 := hC.1.1
  obtain ⟨p8, hst⟩ := hC.2.2.2.2.2.2.2.1
  obtain ⟨p10, hwo0, ⟨w0, ws⟩, hws⟩ := hC.2.2.2.2.2.2.2.2.2.1
  have hbo : bo = b + 23 ∨ bo = b + 25 := by
    rcases hC.2.2.2.2.1 with ⟨e, -⟩ | ⟨e, -⟩
    · exact Or.inl e
    · exact Or.inr e
  unfold F_X9_undo
  rw [m_gr a0 p10, m_gi hwo0, k7]
  refine ⟨fun e => ?_, fun e => ?_⟩
  · rw [e, if_neg (show ¬ (0 : Int32) < Int32.ofNat 0 by decide)]
  · obtain ⟨v1, v2⟩ := hws (nw - 1) (by omega)
    have e39 : b + 37 + 2 + 3 * (nw - 1) = b + 39 + 3 * (nw - 1) := by omega
    rw [e39] at v1 v2
    obtain ⟨f1, x1, g1, r1⟩ := qc_take (N := N) (f := ax2 f (b + 37) 1 (Int32.ofNat (nw - 1))) (by omega) hst v2 (by omega)
    have gw : rdSt f1 (b + 31) = wk (nw - 1) := by
      rw [g1, ← k8 (nw - 1) (by omega)]
      exact rdSt_e (ax2_n _ _ _ _ (by omega)) (ax2_n _ _ _ _ (by omega)) (ax2_n _ _ _ _ (by omega))
    have o1 : ∀ x, x ≠ b + 31 → x ≠ b + 32 → x ≠ b + 33 → x ≠ b + 37 → f1 x = f x := fun x p q s v => by rw [r1 x p q s, ax2_n _ _ _ _ v]
    have o2 : ∀ x, x ≠ b → x ≠ b + 31 → x ≠ b + 32 → x ≠ b + 33 → x ≠ b + 37 → ax2 f1 b 13 0 x = f x := fun x w p q s v => by rw [ax2_n _ _ _ _ w, o1 x p q s v]
    have ob : ∀ k, k ≠ 13 → ax2 f1 b 13 0 b k = f b k := fun k hk => by rw [ax2_j _ _ _ _ _ hk, o1 b (by omega) (by omega) (by omega) (by omega)]
    have m1 : ax2 f1 b 13 0 (b + 37) 1 = Int32.ofNat (nw - 1) := by rw [ax2_n _ _ _ _ (by omega), r1 _ (by omega) (by omega) (by omega), ax2_k]
    have ep : F_X8_pop N (b + 37) (b + 31) (axM Z f) = some (axM Z f1) := by
      unfold F_X8_pop
      rw [m_gi hwo0, k7, if_neg (show ¬ Int32.ofNat nw ≤ 0 from qi_nge (j := 0) (by omega) (by omega)), m_gi hwo0, k7, m_gr hwo0 w0, m_len (t := 4) ws (by omega), if_neg (qi_ngt (by omega) (by omega)), m_gi hwo0, k7, m_pi hwo0, qi_m2 (by omega), m_gr hwo0 w0, m_gi hwo0, ax2_k, m_ldrn (t := 2) ws (by omega) (show nw - 1 < 16 by omega) (by omega) v1, m_is hst.1, x1, axBV_s]
    refine ⟨ax2 f1 b 13 0, ?_, CA.mk ⟨fa, sf, la, sl, bo, sb, ?_, ?_⟩ (hK.e fun x p q => o2 x (by omega) (by omega) (by omega) (by omega) (by omega)) hT (by rw [o2 _ (by omega) (by omega) (by omega) (by omega) (by omega), k1]) (by rw [o2 _ (by omega) (by omega) (by omega) (by omega) (by omega), k3]) ⟨fun j hj => by rw [o2 _ (by omega) (by omega) (by omega) (by omega) (by omega), k2 j hj], ax2_k _ _ _ _, by rw [ob _ (by omega), k5], by rw [ob _ (by omega), k6], m1, fun w hw => ?_, by rw [ob _ (by omega), k9], fun i hi => ?_⟩, fun x hx => o2 x (by omega) (by omega) (by omega) (by omega) (by omega)⟩
    · rw [if_pos (show (0 : Int32) < Int32.ofNat nw from qi_gt (i := 0) e (by omega)), m_gr a0 p10, m_gr a0 p8, m_is hwo0, ep, axBV_s, m_pi a0, m_gr a0 p10, m_gi hwo0, m1]
    · have H1 : HC Z b fa sf la sl bo sb f1 ψ l (wk (nw - 1)) := by
        obtain ⟨-, hF, hw, hl, hlw, -, -⟩ := hH
        have dfa := hC.2.2.1
        have dla := hC.2.2.2.1
        exact ⟨hC, by rw [← hF]; exact rdF_e fun x p q => by rw [o1 x (by omega) (by omega) (by omega) (by omega)], hw, hl.e (o1 _ (by omega) (by omega) (by omega) (by omega)) (o1 _ (by omega) (by omega) (by omega) (by omega)), hlw, gw, (hwk _ (by omega)).1⟩
      obtain ⟨-, hF, hw, hl, hlw, hR, hok⟩ := H1
      have dfa := hC.2.2.1
      have dla := hC.2.2.2.1
      exact ⟨hC, by rw [← hF]; exact rdF_e fun x p q => ax2_n _ _ _ _ (by omega), hw, hl.e (ax2_n _ _ _ _ (by omega)) (ax2_n _ _ _ _ (by omega)), hlw, by rw [← hR]; exact rdSt_n f1 0 (by omega), hok⟩
    · unfold clB at hB ⊢
      rw [o2 bo (by omega) (by omega) (by omega) (by omega) (by omega), o2 (bo + 1) (by omega) (by omega) (by omega) (by omega) (by omega)]
      exact hB
    · rw [← k8 w (by omega)]
      exact rdSt_e (o2 _ (by omega) (by omega) (by omega) (by omega) (by omega)) (o2 _ (by omega) (by omega) (by omega) (by omega) (by omega)) (o2 _ (by omega) (by omega) (by omega) (by omega) (by omega))
    · obtain ⟨u1, u2, u3⟩ := k10 i hi
      refine ⟨by rw [o2 _ (by omega) (by omega) (by omega) (by omega) (by omega), u1], ?_, fun w hw => ?_⟩
      · rw [← u2]
        exact rdSt_e (o2 _ (by omega) (by omega) (by omega) (by omega) (by omega)) (o2 _ (by omega) (by omega) (by omega) (by omega) (by omega)) (o2 _ (by omega) (by omega) (by omega) (by omega) (by omega))
      · have := (him i hi).1
        rw [← u3 w hw]
        exact rdSt_e (o2 _ (by omega) (by omega) (by omega) (by omega) (by omega)) (o2 _ (by omega) (by omega) (by omega) (by omega) (by omega)) (o2 _ (by omega) (by omega) (by omega) (by omega) (by omega))
end
