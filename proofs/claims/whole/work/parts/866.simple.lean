/-! fault, status, kept -/
section
variable {Z : AxS} {b m N : Nat} {f : Nat → Nat → Int32} {ψ : QF} {l : QL} {r β : QR} {nl nb : Nat} {t : QR} {pl rs c0 c1 : Int32} {nw : Nat} {wk : Nat → QR} {ni : Nat} {im : QI}
theorem MA.t0 (h : MA Z m f ψ l r β nl nb t pl rs c0 c1 nw wk ni im) (hV : VA ψ nb t nw wk ni im) : MA Z m (ax2 f m 0 0) ψ l r β nl nb t pl rs c0 c1 nw wk ni im ∧ MK Z m f (ax2 f m 0 0) := by
  refine ⟨h.x hV.2.2.1 hV.2.2.2.2.1 ?_ ?_ (fun k hk => ax2_j _ _ _ _ _ (by omega)) (fun x hx => ?_), ax2_k _ _ _ _, fun x hx => ax2_n _ _ _ _ (by omega)⟩
  · rw [ax2_j _ _ _ _ _ (by omega)]
    exact h.2.2.1
  · rw [ax2_j _ _ _ _ _ (by omega)]
    exact h.2.2.2.2.1
  · unfold scX at hx
    exact ax2_n _ _ _ _ (by omega)
theorem qc_fault (h : CA Z b f ψ l r β nl nb t pl rs c0 c1 nw wk ni im) : F_X9_fault N b (axM Z f) = some (pl, axM Z f) := by
  obtain ⟨⟨fa, sf, la, sl, bo, sb, hH, -⟩, -, -, -, -, k3, -⟩ := h
  obtain ⟨⟨a0, -⟩, -, -, -, -, ⟨e0, e1⟩, -⟩ := hH.1
  unfold F_X9_fault
  rw [m_gr a0 e0, m_gi e1.1, k3]
theorem qm_fault (h : MA Z m f ψ l r β nl nb t pl rs c0 c1 nw wk ni im) : F_X10_fault N m (axM Z f) = some (pl, axM Z (ax2 f m 0 0)) := by
  have h0 := h.1.1.1
  unfold F_X10_fault
  rw [m_pi h0, m_gi h0, ax2_j _ _ _ _ _ (by omega), h.2.2.2.2.1]
def q_stat (c0 c1 x : Int32) : Int32 := if x = 0 then c0 else if x = 1 then c1 else -1
theorem qc_status (h : CA Z b f ψ l r β nl nb t pl rs c0 c1 nw wk ni im) (x : Int32) : F_X9_status N b x (axM Z f) = some (q_stat c0 c1 x, axM Z f) := by
  obtain ⟨⟨fa, sf, la, sl, bo, sb, hH, -⟩, -, -, -, -, -, -, k5, k6, -⟩ := h
  have a0 := hH.1.1.1
  unfold F_X9_status q_stat
  by_cases e0 : x = 0
  · rw [if_pos e0, if_pos e0, m_gi a0, k5]
  rw [if_neg e0, if_neg e0]
  by_cases e1 : x = 1
  · rw [if_pos e1, if_pos e1, m_gi a0, k6]
  rw [if_neg e1, if_neg e1]
theorem qm_status (h : MA Z m f ψ l r β nl nb t pl rs c0 c1 nw wk ni im) (x : Int32) : F_X10_status N m x (axM Z f) = some (q_stat c0 c1 x, axM Z (ax2 f m 0 0)) := by
  obtain ⟨hH, -, -, -, -, -, k5, k6, -⟩ := h
  have hm := hH.1
  have h0 := hm.1
  have p10 : axP Z m 10 = some (m + 2) := hm.2.1 10 2 rfl
  have s2 : axL Z (m + 2) = some (1, 2) := hm.2.2.1 2 _ rfl
  unfold F_X10_status q_stat
  rw [m_pi h0, m_in, axB_s]
  by_cases e0 : x = 0
  · subst e0
    rw [if_pos (show (0 : Int32) ≤ 0 ∧ (0 : Int32) ≤ 1 by decide), if_neg (show ¬ (1 : Int32) = 0 by decide), m_gr h0 p10, m_ldk_0 s2 (by omega), ax2_n _ _ _ _ (by omega), k5, if_pos rfl]
  by_cases e1 : x = 1
  · subst e1
    rw [if_pos (show (0 : Int32) ≤ 1 ∧ (1 : Int32) ≤ 1 by decide), if_neg (show ¬ (1 : Int32) = 0 by decide), m_gr h0 p10, m_ldk_1 s2 (by omega), ax2_n _ _ _ _ (by omega), k6, if_neg e0, if_pos rfl]
  have nq : ¬ (0 ≤ x ∧ x ≤ 1) := fun q => by
    obtain ⟨n, n1, n2⟩ := q_nn (n := 1) q.1 q.2 (by omega)
    rcases (show n = 0 ∨ n = 1 by omega) with rfl | rfl
    · exact e0 n2
    · exact e1 n2
  rw [if_neg nq, if_pos rfl, if_neg e0, if_neg e1]
def q_kept (ni nb nw : Nat) (x : Int32) : Int32 := if x = 0 then Int32.ofNat ni else if x = 1 then Int32.ofNat nb else if x = 2 then Int32.ofNat nw else -1
theorem qc_kept (h : CA Z b f ψ l r β nl nb t pl rs c0 c1 nw wk ni im) (x : Int32) : F_X9_kept N b x (axM Z f) = some (q_kept ni nb nw x, axM Z f) := by
  obtain ⟨⟨fa, sf, la, sl, bo, sb, hH, -⟩, -, -, k1, -, -, -, -, -, k7, -, k9, -⟩ := h
  obtain ⟨⟨a0, -⟩, -, -, -, -, ⟨e0, e1⟩, -, -, -, ⟨e8, e9⟩, -⟩ := hH.1
  unfold F_X9_kept q_kept
  by_cases c0 : x = 0
  · rw [if_pos c0, if_pos c0, m_gi a0, k9]
  rw [if_neg c0, if_neg c0]
  by_cases c1 : x = 1
  · rw [if_pos c1, if_pos c1, m_gr a0 e0, m_gi e1.1, k1]
  rw [if_neg c1, if_neg c1]
  by_cases c2 : x = 2
  · rw [if_pos c2, if_pos c2, m_gr a0 e8, m_gi e9.1, k7]
  rw [if_neg c2, if_neg c2]
theorem qm_kept (h : MA Z m f ψ l r β nl nb t pl rs c0 c1 nw wk ni im) (x : Int32) : F_X10_kept N m x (axM Z f) = some (q_kept ni nb nw x, axM Z (ax2 f m 0 0)) := by
  obtain ⟨hH, -, k1, -, -, -, -, -, k7, -, k9, -⟩ := h
  have h0 := hH.1.1
  unfold F_X10_kept q_kept
  rw [m_pi h0]
  by_cases c0 : x = 0
  · rw [if_pos c0, if_pos c0, m_gi h0, ax2_j _ _ _ _ _ (by omega), k9]
  rw [if_neg c0, if_neg c0]
  by_cases c1 : x = 1
  · rw [if_pos c1, if_pos c1, m_gi h0, ax2_j _ _ _ _ _ (by omega), k1]
  rw [if_neg c1, if_neg c1]
  by_cases c2 : x = 2
  · rw [if_pos c2, if_pos c2, m_gi h0, ax2_j _ _ _ _ _ (by omega), k7]
  rw [if_neg c2, if_neg c2]
end
