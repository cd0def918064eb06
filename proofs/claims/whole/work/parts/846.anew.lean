/-! a new abbey: all begins anew -/
section
variable {Z Z' : AxS} {b fa sf la sl bo sb m N : Nat} {f : Nat → Nat → Int32} {φ ψ : QF}
theorem LSt.zz {a : Nat} (h : LSt Z a) (hL : ∀ x, axL Z' x = axL Z x) (hP : ∀ x k, x = a → axP Z' x k = axP Z x k) : LSt Z' a := by
  unfold LSt
  rw [hL, hL, hL, hP _ _ rfl, hP _ _ rfl]
  exact h
theorem LFa.zz {a : Nat} (h : LFa Z a) (hL : ∀ x, axL Z' x = axL Z x) (hP : ∀ x k, x = a → axP Z' x k = axP Z x k) : LFa Z' a := by
  unfold LFa
  rw [hL, hL, hL, hL, hL, hL, hP _ _ rfl, hP _ _ rfl, hP _ _ rfl, hP _ _ rfl, hP _ _ rfl]
  exact h
theorem LLa.zz {a : Nat} (h : LLa Z a) (hL : ∀ x, axL Z' x = axL Z x) (hP : ∀ x k, x = a → axP Z' x k = axP Z x k) : LLa Z' a := by
  unfold LLa
  rw [hL, hL, hL, hL, hP _ _ rfl, hP _ _ rfl, hP _ _ rfl]
  exact h
theorem LBo.zz {a : Nat} (h : LBo Z a) (hL : ∀ x, axL Z' x = axL Z x) (hP : ∀ x k, x = a → axP Z' x k = axP Z x k) : LBo Z' a := by
  unfold LBo
  rw [hL, hL, hP _ _ rfl]
  exact h
theorem LTa.zz {a : Nat} (h : LTa Z a) (hL : ∀ x, axL Z' x = axL Z x) (hP : ∀ x k, x = a → axP Z' x k = axP Z x k) : LTa Z' a := by
  unfold LTa
  rw [hL, hL, hP _ _ rfl]
  exact h
theorem LSp.zz {a : Nat} (h : LSp Z a) (hL : ∀ x, axL Z' x = axL Z x) (hP : ∀ x k, x = a → axP Z' x k = axP Z x k) : LSp Z' a := by
  unfold LSp
  rw [hL, hL, hL, hL, hP _ _ rfl, hP _ _ rfl, hP _ _ rfl]
  exact h
theorem LWo.zz {a : Nat} (h : LWo Z a) (hL : ∀ x, axL Z' x = axL Z x) (hP : ∀ x k, a ≤ x → axP Z' x k = axP Z x k) : LWo Z' a := by
  obtain ⟨h1, ⟨h2, h3⟩, h4⟩ := h
  refine ⟨by rw [hL, h1], ⟨by rw [hP _ _ (by omega), h2], by rw [hL, h3]⟩, fun j hj => ⟨by rw [hP _ _ (by omega), (h4 j hj).1], (h4 j hj).2.zz hL fun x k e => hP x k (by omega)⟩⟩
theorem LIm.zz {a : Nat} (h : LIm Z a) (hL : ∀ x, axL Z' x = axL Z x) (hP : ∀ x k, a ≤ x → axP Z' x k = axP Z x k) : LIm Z' a := by
  obtain ⟨h1, ⟨h2, h3⟩, h4, h5⟩ := h
  exact ⟨by rw [hL, h1], ⟨by rw [hP _ _ (by omega), h2], h3.zz hL fun x k e => hP x k (by omega)⟩, by rw [hP _ _ (by omega), h4], h5.zz hL fun x k e => hP x k (by omega)⟩
theorem LFi.zz {a : Nat} (h : LFi Z a) (hL : ∀ x, axL Z' x = axL Z x) (hP : ∀ x k, a ≤ x → axP Z' x k = axP Z x k) : LFi Z' a := by
  obtain ⟨h1, ⟨h2, h3⟩, ⟨h4, h5⟩, h6⟩ := h
  exact ⟨by rw [hL, h1], ⟨by rw [hP _ _ (by omega), h2], by rw [hL, h3]⟩, ⟨by rw [hP _ _ (by omega), h4], by rw [hL, h5]⟩, fun j hj => ⟨by rw [hP _ _ (by omega), (h6 j hj).1], by rw [hL, (h6 j hj).2]⟩⟩
theorem LCl.zz {fa' sf' la' sl' bo' sb' : Nat} (h : LCl Z b fa sf la sl bo sb) (hL : ∀ x, axL Z' x = axL Z x) (hP : ∀ x k, x ≠ b → b ≤ x → axP Z' x k = axP Z x k) (hb : ∀ k, k = 0 ∨ 7 ≤ k → axP Z' b k = axP Z b k) (h1 : axP Z' b 1 = some fa') (h2 : axP Z' b 2 = some sf') (h3 : axP Z' b 3 = some la') (h4 : axP Z' b 4 = some sl') (h5 : axP Z' b 5 = some bo') (h6 : axP Z' b 6 = some sb') (hf : (fa' = fa ∧ sf' = sf) ∨ (fa' = sf ∧ sf' = fa)) (hl : (la' = la ∧ sl' = sl) ∨ (la' = sl ∧ sl' = la)) (ho : (bo' = bo ∧ sb' = sb) ∨ (bo' = sb ∧ sb' = bo)) : LCl Z' b fa' sf' la' sl' bo' sb' := by
  obtain ⟨⟨a0, a1, a2, a3, a4, a5, a6⟩, ⟨c1, c2, c3, c4, c5, c6⟩, d1, d2, d3, ⟨e0, e1⟩, ⟨e2, e3⟩, ⟨e4, e5⟩, ⟨e6, e7⟩, ⟨e8, e9⟩, ⟨g0, g1, g2⟩, ⟨g3, g4⟩, ⟨g5, g6⟩, ⟨g7, g8⟩, g9, g10⟩ := h
  have t1 : ∀ {x y : Nat}, ((x = b + 3 ∧ y = b + 9) ∨ (x = b + 9 ∧ y = b + 3)) → (x ≠ b ∧ b ≤ x) ∧ y ≠ b ∧ b ≤ y := fun q => by omega
  have t2 : ∀ {x y : Nat}, ((x = b + 15 ∧ y = b + 19) ∨ (x = b + 19 ∧ y = b + 15)) → (x ≠ b ∧ b ≤ x) ∧ y ≠ b ∧ b ≤ y := fun q => by omega
  have t3 : ∀ {x y : Nat}, ((x = b + 23 ∧ y = b + 25) ∨ (x = b + 25 ∧ y = b + 23)) → (x ≠ b ∧ b ≤ x) ∧ y ≠ b ∧ b ≤ y := fun q => by omega
  obtain ⟨⟨n1, n2⟩, n3, n4⟩ := t1 d1
  obtain ⟨⟨n5, n6⟩, n7, n8⟩ := t2 d2
  obtain ⟨⟨n9, n10⟩, n11, n12⟩ := t3 d3
  have sw : ∀ {p q r u : Prop}, (p ∧ q) ∨ (r ∧ u) → (q ∧ p) ∨ (u ∧ r) := fun z => z.elim (fun q => Or.inl ⟨q.2, q.1⟩) (fun q => Or.inr ⟨q.2, q.1⟩)
  have F1 := c1.zz hL (fun x k e => hP x k (e ▸ n1) (e ▸ n2))
  have F2 := c2.zz hL (fun x k e => hP x k (e ▸ n3) (e ▸ n4))
  have L1 := c3.zz hL (fun x k e => hP x k (e ▸ n5) (e ▸ n6))
  have L2 := c4.zz hL (fun x k e => hP x k (e ▸ n7) (e ▸ n8))
  have B1 := c5.zz hL (fun x k e => hP x k (e ▸ n9) (e ▸ n10))
  have B2 := c6.zz hL (fun x k e => hP x k (e ▸ n11) (e ▸ n12))
  clear t1 t2 t3 n1 n2 n3 n4 n5 n6 n7 n8 n9 n10 n11 n12
  have G1 : (LFa Z' fa' ∧ LFa Z' sf') ∧ ((fa' = b + 3 ∧ sf' = b + 9) ∨ (fa' = b + 9 ∧ sf' = b + 3)) := by
    rcases hf with ⟨rfl, rfl⟩ | ⟨rfl, rfl⟩
    · exact ⟨⟨F1, F2⟩, d1⟩
    · exact ⟨⟨F2, F1⟩, (sw d1).symm⟩
  have G2 : (LLa Z' la' ∧ LLa Z' sl') ∧ ((la' = b + 15 ∧ sl' = b + 19) ∨ (la' = b + 19 ∧ sl' = b + 15)) := by
    rcases hl with ⟨rfl, rfl⟩ | ⟨rfl, rfl⟩
    · exact ⟨⟨L1, L2⟩, d2⟩
    · exact ⟨⟨L2, L1⟩, (sw d2).symm⟩
  have G3 : (LBo Z' bo' ∧ LBo Z' sb') ∧ ((bo' = b + 23 ∧ sb' = b + 25) ∨ (bo' = b + 25 ∧ sb' = b + 23)) := by
    rcases ho with ⟨rfl, rfl⟩ | ⟨rfl, rfl⟩
    · exact ⟨⟨B1, B2⟩, d3⟩
    · exact ⟨⟨B2, B1⟩, (sw d3).symm⟩
  clear d1 d2 d3 hf hl ho
  exact ⟨⟨by rw [hL, a0], h1, h2, h3, h4, h5, h6⟩, ⟨G1.1.1, G1.1.2, G2.1.1, G2.1.2, G3.1.1, G3.1.2⟩, G1.2, G2.2, G3.2, ⟨by rw [hb 0 (by omega), e0], e1.zz hL (fun x k e => hP x k (by omega) (by omega))⟩, ⟨by rw [hb 7 (by omega), e2], e3.zz hL (fun x k e => hP x k (by omega) (by omega))⟩, ⟨by rw [hb 8 (by omega), e4], e5.zz hL (fun x k e => hP x k (by omega) (by omega))⟩, ⟨by rw [hb 9 (by omega), e6], e7.zz hL (fun x k e => hP x k (by omega) (by omega))⟩, ⟨by rw [hb 10 (by omega), e8], e9.zz hL (fun x k e => hP x k (by omega) (by omega))⟩, ⟨by rw [hb 11 (by omega), g0], by rw [hL, g1], fun j hj => ⟨by rw [hP _ _ (by omega) (by omega), (g2 j hj).1], (g2 j hj).2.zz hL (fun x k e => hP x k (by omega) (by omega))⟩⟩, ⟨by rw [hb 16 (by omega), g3], g4.zz hL (fun x k e => hP x k (by omega) (by omega))⟩, ⟨by rw [hb 17 (by omega), g5], by rw [hL, g6]⟩, ⟨by rw [hb 18 (by omega), g7], by rw [hL, g8]⟩, by rw [hb 19 (by omega), g9], by rw [hL, g10]⟩
theorem LMo.zz (h : LMo Z m) (hL : ∀ x, axL Z' x = axL Z x) (hP : ∀ x k, m ≤ x → axP Z' x k = axP Z x k) : LMo Z' m := by
  obtain ⟨h1, h2, h3, h4⟩ := h
  exact ⟨by rw [hL, h1], fun k t e => by rw [hP _ _ (Nat.le_refl _), h2 k t e], fun t sh e => by rw [hL, h3 t sh e], fun t n K e j hj => ⟨by rw [hP _ _ (by omega), (h4 t n K e j hj).1], by rw [hL, (h4 t n K e j hj).2]⟩⟩
/-- two references changed for each other -/
def q_sw (Z : AxS) (b k : Nat) (x y : Nat) : AxS := axSP (axSP Z b (k + 1) (some x)) b k (some y)
theorem q_sw_L (Z : AxS) (b k x y a : Nat) : axL (q_sw Z b k x y) a = axL Z a := rfl
theorem q_sw_n (Z : AxS) (b k x y : Nat) {a : Nat} (j : Nat) (h : a ≠ b) : axP (q_sw Z b k x y) a j = axP Z a j := by
  show ax2 (ax2 (axP Z) b (k + 1) (some x)) b k (some y) a j = _
  rw [ax2_n _ _ _ _ h, ax2_n _ _ _ _ h]
theorem q_sw_j (Z : AxS) (b k x y a : Nat) {j : Nat} (h : j ≠ k) (h2 : j ≠ k + 1) : axP (q_sw Z b k x y) a j = axP Z a j := by
  show ax2 (ax2 (axP Z) b (k + 1) (some x)) b k (some y) a j = _
  rw [ax2_j _ _ _ _ _ h, ax2_j _ _ _ _ _ h2]
theorem q_sw_1 (Z : AxS) (b k x y : Nat) : axP (q_sw Z b k x y) b k = some y := ax2_k _ _ _ _
theorem q_sw_2 (Z : AxS) (b k x y : Nat) : axP (q_sw Z b k x y) b (k + 1) = some x := by
  show ax2 (ax2 (axP Z) b (k + 1) (some x)) b k (some y) b (k + 1) = _
  rw [ax2_j _ _ _ _ _ (by omega), ax2_k]
theorem LCl.swf (h : LCl Z b fa sf la sl bo sb) : LCl (q_sw Z b 1 fa sf) b sf fa la sl bo sb := by
  obtain ⟨-, h1, h2, h3, h4, h5, h6⟩ := h.1
  exact h.zz (fun x => q_sw_L _ _ _ _ _ x) (fun x k a _ => q_sw_n _ _ _ _ _ _ a) (fun k a => q_sw_j _ _ _ _ _ _ (by omega) (by omega)) (q_sw_1 _ _ _ _ _) (q_sw_2 _ _ 1 _ _) (by rw [q_sw_j _ _ _ _ _ _ (by omega) (by omega), h3]) (by rw [q_sw_j _ _ _ _ _ _ (by omega) (by omega), h4]) (by rw [q_sw_j _ _ _ _ _ _ (by omega) (by omega), h5]) (by rw [q_sw_j _ _ _ _ _ _ (by omega) (by omega), h6]) (Or.inr ⟨rfl, rfl⟩) (Or.inl ⟨rfl, rfl⟩) (Or.inl ⟨rfl, rfl⟩)
theorem LCl.swl (h : LCl Z b fa sf la sl bo sb) : LCl (q_sw Z b 3 la sl) b fa sf sl la bo sb := by
  obtain ⟨-, h1, h2, h3, h4, h5, h6⟩ := h.1
  exact h.zz (fun x => q_sw_L _ _ _ _ _ x) (fun x k a _ => q_sw_n _ _ _ _ _ _ a) (fun k a => q_sw_j _ _ _ _ _ _ (by omega) (by omega)) (by rw [q_sw_j _ _ _ _ _ _ (by omega) (by omega), h1]) (by rw [q_sw_j _ _ _ _ _ _ (by omega) (by omega), h2]) (q_sw_1 _ _ _ _ _) (q_sw_2 _ _ 3 _ _) (by rw [q_sw_j _ _ _ _ _ _ (by omega) (by omega), h5]) (by rw [q_sw_j _ _ _ _ _ _ (by omega) (by omega), h6]) (Or.inl ⟨rfl, rfl⟩) (Or.inr ⟨rfl, rfl⟩) (Or.inl ⟨rfl, rfl⟩)
theorem LCl.swb (h : LCl Z b fa sf la sl bo sb) : LCl (q_sw Z b 5 bo sb) b fa sf la sl sb bo := by
  obtain ⟨-, h1, h2, h3, h4, h5, h6⟩ := h.1
  exact h.zz (fun x => q_sw_L _ _ _ _ _ x) (fun x k a _ => q_sw_n _ _ _ _ _ _ a) (fun k a => q_sw_j _ _ _ _ _ _ (by omega) (by omega)) (by rw [q_sw_j _ _ _ _ _ _ (by omega) (by omega), h1]) (by rw [q_sw_j _ _ _ _ _ _ (by omega) (by omega), h2]) (by rw [q_sw_j _ _ _ _ _ _ (by omega) (by omega), h3]) (by rw [q_sw_j _ _ _ _ _ _ (by omega) (by omega), h4]) (q_sw_1 _ _ _ _ _) (q_sw_2 _ _ 5 _ _) (Or.inl ⟨rfl, rfl⟩) (Or.inl ⟨rfl, rfl⟩) (Or.inr ⟨rfl, rfl⟩)
theorem LMo.swm (h : LMo Z m) (hd : b < m) (k x y : Nat) : LMo (q_sw Z b k x y) m := h.zz (fun a => q_sw_L _ _ _ _ _ a) (fun a j q => q_sw_n _ _ _ _ _ _ (by omega))
/-- the class's -/
theorem qc_anew (hN : 2000 < N) (h : LCl Z b fa sf la sl bo sb) (h0 : f fa 0 = ψ 0 0) (h2 : f fa 2 = ψ 0 2) : ∃ f', F_X9_beginAnew N b (axM Z f) = some (axM Z f') ∧ clLaw f' la [] ∧ clB f' bo (fun _ => -1) 0 ∧ f' (b + 88) 0 = 0 ∧ rdSt f' (b + 31) = q_beg ψ (ψ 0 0) ∧ f' (b + 37) 1 = 0 ∧ f' b 12 = 0 ∧ f' b 13 = 0 ∧ (∀ x, x ≠ b → ¬ (x = la ∨ x = la + 1 ∨ x = bo ∨ x = bo + 1 ∨ x = b + 88 ∨ x = b + 31 ∨ x = b + 32 ∨ x = b + 33 ∨ x = b + 37) → f' x = f x) ∧ ∀ k, k ≠ 12 → k ≠ 13 → f' b k = f b k := by
  have hC := h
  obtain ⟨⟨a0, a1, a2, a3, a4, a5, a6⟩, ⟨c1, c2, c3, c4, c5, c6⟩, d1, d2, d3, -, -, ⟨e4, e5⟩, -, ⟨e8, e9⟩, -, ⟨g3, g4⟩, -⟩ := hC
  have q1 : b < fa ∧ fa < b + 15 := by clear d2 d3; omega
  have q2 : b + 14 < la ∧ la + 3 < b + 23 := by clear d1 d3; omega
  have q3 : b + 22 < bo ∧ bo + 1 < b + 27 := by clear d1 d2; omega
  clear d1 d2 d3
  obtain ⟨f1, w1, l1, r1⟩ := qc_tenth (N := N) (f := f) c3
  obtain ⟨f2, w2, l2, r2⟩ := qc_bclear (N := N) (f := f1) (by omega) c5
  have x0 : ax2 f2 (b + 88) 0 0 fa 0 = ψ 0 0 := by rw [ax2_n _ _ _ _ (by omega), r2 fa (by omega) (by omega), r1 fa (by omega) (by omega), h0]
  have x2 : ax2 f2 (b + 88) 0 0 fa 2 = ψ 0 2 := by rw [ax2_n _ _ _ _ (by omega), r2 fa (by omega) (by omega), r1 fa (by omega) (by omega), h2]
  obtain ⟨f3, w3, l3, r3⟩ := qc_begin (N := N) (f := ax2 f2 (b + 88) 0 0) (ψ := ψ) (by omega) e5 c1 (by omega) x0 x2
  unfold F_X9_beginAnew
  rw [m_gr a0 a3, m_is c3.1, w1, axBV_s, m_gr a0 a5, m_is c5.1, w2, axBV_s, m_gr a0 g3, m_pi g4.1, m_gr a0 e4, m_gr a0 a1, m_is e5.1, w3, axBV_s, m_gr a0 e8, m_pi e9.1, m_pi a0, m_pi a0]
  refine ⟨_, rfl, ?_, ?_, ?_, ?_, ?_, ?_, ?_, fun x hx hy => ?_, fun k k1 k2 => ?_⟩
  · unfold clLaw at l1 ⊢
    rw [ax2_n _ _ _ _ (show la ≠ b by omega), ax2_n _ _ _ _ (show la ≠ b by omega), ax2_n _ _ _ _ (show la ≠ b + 37 by omega), r3 la (by omega) (by omega) (by omega), ax2_n _ _ _ _ (show la ≠ b + 88 by omega), r2 la (by omega) (by omega), ax2_n _ _ _ _ (show la + 1 ≠ b by omega), ax2_n _ _ _ _ (show la + 1 ≠ b by omega), ax2_n _ _ _ _ (show la + 1 ≠ b + 37 by omega), r3 (la + 1) (by omega) (by omega) (by omega), ax2_n _ _ _ _ (show la + 1 ≠ b + 88 by omega), r2 (la + 1) (by omega) (by omega)]
    exact l1
  · unfold clB at l2 ⊢
    rw [ax2_n _ _ _ _ (show bo ≠ b by omega), ax2_n _ _ _ _ (show bo ≠ b by omega), ax2_n _ _ _ _ (show bo ≠ b + 37 by omega), r3 bo (by omega) (by omega) (by omega), ax2_n _ _ _ _ (show bo ≠ b + 88 by omega), ax2_n _ _ _ _ (show bo + 1 ≠ b by omega), ax2_n _ _ _ _ (show bo + 1 ≠ b by omega), ax2_n _ _ _ _ (show bo + 1 ≠ b + 37 by omega), r3 (bo + 1) (by omega) (by omega) (by omega), ax2_n _ _ _ _ (show bo + 1 ≠ b + 88 by omega)]
    exact l2
  · rw [ax2_n _ _ _ _ (by omega), ax2_n _ _ _ _ (by omega), ax2_n _ _ _ _ (by omega), r3 (b + 88) (by omega) (by omega) (by omega), ax2_k]
  · rw [← l3]
    exact rdSt_e (by rw [ax2_n _ _ _ _ (by omega), ax2_n _ _ _ _ (by omega), ax2_n _ _ _ _ (by omega)]) (by rw [ax2_n _ _ _ _ (by omega), ax2_n _ _ _ _ (by omega), ax2_n _ _ _ _ (by omega)]) (by rw [ax2_n _ _ _ _ (by omega), ax2_n _ _ _ _ (by omega), ax2_n _ _ _ _ (by omega)])
  · rw [ax2_n _ _ _ _ (by omega), ax2_n _ _ _ _ (by omega), ax2_k]
  · rw [ax2_j _ _ _ _ _ (by omega), ax2_k]
  · rw [ax2_k]
  · rw [ax2_n _ _ _ _ hx, ax2_n _ _ _ _ hx, ax2_n _ _ _ _ (by omega), r3 x (by omega) (by omega) (by omega), ax2_n _ _ _ _ (by omega), r2 x (by omega) (by omega), r1 x (by omega) (by omega)]
  · rw [ax2_j _ _ _ _ _ k2, ax2_j _ _ _ _ _ k1, ax2_n _ _ _ _ (by omega), r3 b (by omega) (by omega) (by omega), ax2_n _ _ _ _ (by omega), r2 b (by omega) (by omega), r1 b (by omega) (by omega)]
end
