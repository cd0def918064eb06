/-! undo, the model's -/
section
variable {Z : AxS} {m N : Nat} {f : Nat → Nat → Int32} {ψ : QF} {l : QL} {r β : QR} {nl nb : Nat} {t : QR} {pl rs c0 c1 : Int32} {nw : Nat} {wk : Nat → QR} {ni : Nat} {im : QI}
theorem qm_undo (hN : 2000 < N) (h : MA Z m f ψ l r β nl nb t pl rs c0 c1 nw wk ni im) (hV : VA ψ nb t nw wk ni im) : (nw = 0 → F_X10_undo N m (axM Z f) = some (-1, axM Z (ax2 f m 0 0))) ∧ (0 < nw → ∃ f', F_X10_undo N m (axM Z f) = some (Int32.ofNat (nw - 1), axM Z f') ∧ MA Z m f' ψ l (wk (nw - 1)) β nl nb t pl 0 c0 c1 (nw - 1) wk ni im ∧ MK Z m f f') := by
  obtain ⟨hH, hB, k1, k2, k3, k4, k5, k6, k7, k8, k9, k10⟩ := h
  obtain ⟨-, -, hnw, hwk, hni, -⟩ := hV
  have hm := hH.1
  have h0 := hm.1
  have p27 : axP Z m 27 = some (m + 440) := hm.2.1 27 440 rfl
  have p29 : axP Z m 29 = some (m + 442) := hm.2.1 29 442 rfl
  have s440 : axL Z (m + 440) = some (1, 29) := hm.2.2.1 440 _ rfl
  have s442 : axL Z (m + 442) = some (3, 16) := hm.2.2.1 442 _ rfl
  unfold F_X10_undo
  rw [m_pi h0, m_gi h0, ax2_j _ _ _ _ _ (by omega), k7]
  refine ⟨fun e => ?_, fun e => ?_⟩
  · rw [e, if_pos (show Int32.ofNat 0 = 0 by decide)]
  · obtain ⟨pr, sr⟩ : axP Z (m + 442) (nw - 1) = some (m + 443 + (nw - 1)) ∧ axL Z (m + 443 + (nw - 1)) = some (1, 29) := hm.2.2.2 442 16 29 rfl (nw - 1) (by omega)
    obtain ⟨f1, x1, g1, r1⟩ := qm_copies (N := N) (f := ax2 (ax2 f m 0 0) m 32 (Int32.ofNat (nw - 1))) (by omega) s440 sr (by omega)
    have gw : rdM f1 (m + 440) = wk (nw - 1) := by
      rw [g1, ← k8 (nw - 1) (by omega)]
      exact rdM_e fun k _ => by rw [ax2_n _ _ _ _ (by omega), ax2_n _ _ _ _ (by omega)]
    have o1 : ∀ x, x ≠ m → x ≠ m + 440 → f1 x = f x := fun x p q => by rw [r1 x q, ax2_n _ _ _ _ p, ax2_n _ _ _ _ p]
    have o2 : ∀ x, x ≠ m → x ≠ m + 440 → ax2 f1 m 33 0 x = f x := fun x p q => by rw [ax2_n _ _ _ _ p, o1 x p q]
    have om : ∀ k, k ≠ 0 → k ≠ 32 → k ≠ 33 → ax2 f1 m 33 0 m k = f m k := fun k a c d => by rw [ax2_j _ _ _ _ _ d, r1 m (by omega), ax2_j _ _ _ _ _ c, ax2_j _ _ _ _ _ a]
    have m32 : ax2 f1 m 33 0 m 32 = Int32.ofNat (nw - 1) := by rw [ax2_j _ _ _ _ _ (by omega), r1 m (by omega), ax2_k]
    rw [if_neg (show ¬ Int32.ofNat nw = 0 from qi_ne (j := 0) (by omega) (by omega) (by omega)), m_gi h0, ax2_j _ _ _ _ _ (by omega), k7, m_pi h0, qi_m2 (by omega), m_gr h0 p29, m_gi h0, ax2_k, m_ldrn (t := 0) s442 (by omega) (show nw - 1 < 16 by omega) (by omega) pr, m_gr h0 p27, x1, axBV_s, m_pi h0, m_gi h0, m32]
    obtain ⟨-, hG, hw, ⟨l1, l2, l3⟩, hlw, -, -, -⟩ := hH
    refine ⟨ax2 f1 m 33 0, rfl, ⟨⟨hm, ?_, hw, ⟨by rw [om 17 (by omega) (by omega) (by omega), l1], l2, fun k q hq => ?_⟩, hlw, ?_, (hwk _ (by omega)).1, (hwk _ (by omega)).2⟩, hB.x (om 31 (by omega) (by omega) (by omega)) (fun x p q => o2 x (by omega) (by omega)), by rw [om 1 (by omega) (by omega) (by omega), k1], fun j hj => by rw [o2 _ (by omega) (by omega), k2 j hj], by rw [om 3 (by omega) (by omega) (by omega), k3], ax2_k _ _ _ _, by rw [o2 _ (by omega) (by omega), k5], by rw [o2 _ (by omega) (by omega), k6], m32, fun w hw => ?_, by rw [om 34 (by omega) (by omega) (by omega), k9], fun i hi => ?_⟩, ?_, fun x hx => o2 x (by omega) (by omega)⟩
    · rw [← hG]
      exact rdG_x fun x hx => o2 x (by omega) (by omega)
    · have := (List.getElem?_eq_some_iff.mp hq).1
      rw [o2 _ (by omega) (by omega)]
      exact l3 k q hq
    · rw [← gw]
      exact rdM_e fun k _ => by rw [ax2_n _ _ _ _ (by omega)]
    · rw [← k8 w (by omega)]
      exact rdM_e fun k _ => by rw [o2 _ (by omega) (by omega)]
    · obtain ⟨v1, v2, v3⟩ := k10 i hi
      have ei := o2 (m + 460 + i) (by omega) (by omega)
      unfold rdI at v2 v3 ⊢
      rw [ei]
      exact ⟨v1, v2, v3⟩
    · rw [ax2_j _ _ _ _ _ (by omega), r1 m (by omega), ax2_j _ _ _ _ _ (by omega), ax2_k]
end
