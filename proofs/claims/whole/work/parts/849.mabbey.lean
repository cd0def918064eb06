/-! an abbey, the model's -/
section
variable {Z : AxS} {m N : Nat} {f g : Nat → Nat → Int32} {ψ : QF} {l : QL} {r β : QR} {nl nb : Nat} {t : QR} {pl rs c0 c1 : Int32} {nw : Nat} {wk : Nat → QR} {ni : Nat} {im : QI}
theorem rdG_x (h : ∀ x, x = m + 4 ∨ x = m + 6 ∨ (m + 13 ≤ x ∧ x ≤ m + 16) → g x = f x) : rdG g m = rdG f m := by
  have h4 := h (m + 4) (by omega)
  have h6 := h (m + 6) (by omega)
  have a := h (m + 13) (by omega)
  have b := h (m + 14) (by omega)
  have c := h (m + 15) (by omega)
  have d := h (m + 16) (by omega)
  refine q_fx (fun k => ?_) (fun k => ?_) (fun k => ?_) (fun k => ?_) (fun k => ?_) (fun k => ?_) (fun t k => ?_)
  · rw [rdG_e0, rdG_e0, h4]
  · rw [rdG_e1, rdG_e1, h6]
  · rw [rdG_e2, rdG_e2, h4, a]
  · rw [rdG_e3, rdG_e3, h4, b]
  · rw [rdG_e4, rdG_e4, h4, c]
  · rw [rdG_e5, rdG_e5, h4, d]
  · rw [rdG_e6, rdG_e6]
theorem HM.x (h : HM Z m f ψ l r) (h17 : g m 17 = f m 17) (e : ∀ x, x = m + 4 ∨ x = m + 6 ∨ (m + 13 ≤ x ∧ x ≤ m + 16) ∨ (m + 18 ≤ x ∧ x ≤ m + 177) ∨ x = m + 440 → g x = f x) : HM Z m g ψ l r := by
  obtain ⟨hm, hG, hw, ⟨l1, l2, l3⟩, hlw, hR, hok, h12⟩ := h
  refine ⟨hm, ?_, hw, ⟨by rw [h17, l1], l2, fun k q hq => ?_⟩, hlw, ?_, hok, h12⟩
  · rw [← hG]
    exact rdG_x fun x hx => e x (by omega)
  · have := (List.getElem?_eq_some_iff.mp hq).1
    rw [e _ (by omega)]
    exact l3 k q hq
  · rw [← hR]
    exact rdM_e fun j _ => by rw [e _ (by omega)]
theorem mlB.x (h : mlB f m β nl) (h31 : g m 31 = f m 31) (e : ∀ x, m + 340 ≤ x → x ≤ m + 347 → g x = f x) : mlB g m β nl := by
  obtain ⟨h1, h2, I, h3, h4⟩ := h
  exact ⟨by rw [h31, h1], h2, I, fun k hk => by rw [e (m + 340 + k) (by omega) (by omega)]; exact h3 k hk, h4⟩
def scX (m x : Nat) : Prop := x = m + 1 ∨ x = m + 2 ∨ x = m + 4 ∨ x = m + 6 ∨ (m + 13 ≤ x ∧ x ≤ m + 16) ∨ (m + 18 ≤ x ∧ x ≤ m + 177) ∨ (m + 340 ≤ x ∧ x ≤ m + 347) ∨ x = m + 440 ∨ (m + 443 ≤ x ∧ x ≤ m + 462)
theorem MA.x {nb' : Nat} {pl' : Int32} (h : MA Z m f ψ l r β nl nb t pl rs c0 c1 nw wk ni im) (hnw : nw ≤ 16) (hni : ni ≤ 3) (h1 : g m 1 = Int32.ofNat nb') (h3 : g m 3 = pl') (hk : ∀ k, k = 17 ∨ (31 ≤ k ∧ k ≤ 34) → g m k = f m k) (e : ∀ x, scX m x → g x = f x) : MA Z m g ψ l r β nl nb' t pl' rs c0 c1 nw wk ni im := by
  obtain ⟨hH, hB, k1, k2, k3, k4, k5, k6, k7, k8, k9, k10⟩ := h
  unfold scX at e
  refine ⟨hH.x (hk 17 (by omega)) (fun x hx => e x (by omega)), hB.x (hk 31 (by omega)) (fun x p q => e x (by omega)), h1, fun j hj => by rw [e (m + 1) (by omega), k2 j hj], h3, by rw [hk 33 (by omega), k4], by rw [e (m + 2) (by omega), k5], by rw [e (m + 2) (by omega), k6], by rw [hk 32 (by omega), k7], fun w hw => ?_, by rw [hk 34 (by omega), k9], fun i hi => ?_⟩
  · rw [← k8 w hw]
    exact rdM_e fun k _ => by rw [e _ (by omega)]
  · obtain ⟨v1, v2, v3⟩ := k10 i hi
    have ei := e (m + 460 + i) (by omega)
    unfold rdI at v2 v3 ⊢
    rw [ei]
    exact ⟨v1, v2, v3⟩
theorem qm_starts (hN : 2000 < N) (hm : LMo Z m) {n : Nat} (hn : n ≤ 600) (ht : ∀ j, j < 600 → f (m + 1) j = t j) : ∃ f', F_X10_starts N m (Int32.ofNat n) (axM Z f) = some (axM Z f') ∧ MT f' m t n (q_bl t n 0) 0 (-1) ∧ f' m 1 = 0 ∧ f' m 7 = 0 ∧ f' m 8 = 0 ∧ (∀ x, x ≠ m → f' x = f x) ∧ ∀ k, k = 0 ∨ k = 3 ∨ 9 ≤ k → f' m k = f m k := by
  have h0 := hm.1
  unfold F_X10_starts
  rw [m_pi h0, m_pi h0, m_pi h0, m_pi h0, m_pi h0, m_pi h0, m_pi h0, m_is h0]
  have g0 : MT (ax2 (ax2 (ax2 (ax2 (ax2 (ax2 (ax2 f m 1 0) m 2 (Int32.ofNat n)) m 4 0) m 5 0) m 6 (-1)) m 7 0) m 8 0) m t n 0 0 (-1) := ⟨by simp [ax2_a], by simp [ax2_a], by simp [ax2_a], by simp [ax2_a], fun j hj => by simp only [ax2_n _ _ _ _ (show m + 1 ≠ m by omega)]; exact ht j hj, hn, Nat.zero_le _⟩
  obtain ⟨f1, e1, g1, fr1⟩ := qm_blanks hN hm g0
  rw [e1, axBV_s]
  refine ⟨f1, rfl, g1, ?_, ?_, ?_, fun x hx => by rw [fr1.1 x hx]; simp only [ax2_n _ _ _ _ hx], fun k hk => ?_⟩
  · rw [fr1.2 1 (by omega) (by omega) (by omega)]
    simp [ax2_a]
  · rw [fr1.2 7 (by omega) (by omega) (by omega)]
    simp [ax2_a]
  · rw [fr1.2 8 (by omega) (by omega) (by omega)]
    simp [ax2_a]
  · rw [fr1.2 k (by omega) (by omega) (by omega), ax2_j _ _ _ _ _ (by omega), ax2_j _ _ _ _ _ (by omega), ax2_j _ _ _ _ _ (by omega), ax2_j _ _ _ _ _ (by omega), ax2_j _ _ _ _ _ (by omega), ax2_j _ _ _ _ _ (by omega), ax2_j _ _ _ _ _ (by omega)]
theorem qm_ends (h0 : axL Z m = some (0, 10)) : F_X10_ends N m (axM Z f) = some (f m 5 - 10, axM Z (ax2 f m 3 (f m 6))) := by
  unfold F_X10_ends
  rw [m_gi h0, m_pi h0, m_gi h0, ax2_j _ _ _ _ _ (by omega)]
/-- what a call of the model gives -/
def MK (Z : AxS) (m : Nat) (f f' : Nat → Nat → Int32) : Prop := f' m 0 = 0 ∧ MFa m f f'
theorem qm_abbey (hN : 2000 < N) (h : MA Z m f ψ l r β nl nb t pl rs c0 c1 nw wk ni im) (hV : VA ψ nb t nw wk ni im) (x : Int32) : (∀ n, x = Int32.ofNat n → n ≤ nb → match q_cls t n 601 0 q_f0 0 with
    | .inl z => ∃ f', F_X10_abbey N m x (axM Z f) = some (z.1 - 10, axM Z f') ∧ MA Z m f' ψ l r β nl 0 t z.2 rs c0 c1 nw wk ni im ∧ MK Z m f f'
    | .inr z => ∃ f', F_X10_abbey N m x (axM Z f) = some (z.1 0 5, axM Z f') ∧ MA Z m f' (q_msk z.1) [] (q_beg z.1 (z.1 0 0)) (fun _ => -1) 0 0 t (-1) 0 c0 c1 0 wk 0 im ∧ MK Z m f f') ∧ (¬ (0 ≤ x ∧ x ≤ Int32.ofNat nb) → MTz Z m f (F_X10_abbey N m x (axM Z f)) 1 1) := by
  have hA := h
  obtain ⟨hH, hB, k1, k2, k3, k4, k5, k6, k7, k8, k9, k10⟩ := h
  have hm := hH.1
  have h0 := hm.1
  have hnb := hV.1
  unfold F_X10_abbey F_X10_abbey_23
  refine ⟨fun n hx hn => ?_, fun c => ?_⟩
  · subst hx
    have hin : 0 ≤ Int32.ofNat n ∧ Int32.ofNat n ≤ Int32.ofNat nb := ⟨Int32.not_lt.mp (qi_nn (by omega)), qi_ge hn (by omega)⟩
    rw [m_pi h0, m_gi h0, ax2_j _ _ _ _ _ (by omega), k1, m_in, axB_s, if_pos hin, if_neg (show ¬ (1 : Int32) = 0 by decide), m_is h0, qm_badF N h0]
    obtain ⟨f1, e1, g1, a1, a7, a8, r1, r1m⟩ := qm_starts (N := N) (f := ax2 f m 0 0) (t := t) hN hm (show n ≤ 600 by omega) (fun j hj => by rw [ax2_n _ _ _ _ (by omega)]; exact k2 j hj)
    obtain ⟨f2, e2, hF2, r2⟩ := qm_tells (N := N) (f := f1) (by omega) hm
    have g2 : MT f2 m t n (q_bl t n 0) 0 (-1) := g1.fr (fun j _ => by rw [r2 m (by omega) (by omega)]) (r2 _ (by omega) (by omega))
    have rr := qm_cls_l (N := N) (f0 := f2) hN hm 601 0 0 N q_f0 f2 (by omega) (by omega) (by omega) g2 (Nat.zero_le _) hF2 q_f0_w (by rw [r2 m (by omega) (by omega), a7]; rfl) (RFm.rf _ _)
    rw [m_is h0, e1, axBV_s, m_is h0, e2, axBV_s]
    have G3 : ∀ f3, RFm m f2 f3 → (∀ x, x ≠ m → ¬ (x = m + 3 ∨ x = m + 5 ∨ (m + 8 ≤ x ∧ x ≤ m + 11)) → f3 x = f x) ∧ f3 m 0 = 0 ∧ f3 m 1 = 0 ∧ (∀ k, 17 ≤ k → f3 m k = f m k) := fun f3 hr => ⟨fun x p q => by rw [hr.1 x p q, r2 x (by omega) (by omega), r1 x p, ax2_n _ _ _ _ p], by rw [hr.2 0 (by omega) (by omega) (by omega) (by omega), r2 m (by omega) (by omega), r1m 0 (by omega), ax2_k], by rw [hr.2 1 (by omega) (by omega) (by omega) (by omega), r2 m (by omega) (by omega), a1], fun k hk => by rw [hr.2 k (by omega) (by omega) (by omega) (by omega), r2 m (by omega) (by omega), r1m k (by omega), ax2_j _ _ _ _ _ (by omega)]⟩
    rcases eo : q_cls t n 601 0 q_f0 0 with z | z
    · rw [eo] at rr
      obtain ⟨f3, q, e3, g3, hz, r3⟩ := rr
      obtain ⟨o3, o30, o31, o3k⟩ := G3 f3 r3
      refine ⟨ax2 f3 m 3 (f3 m 6), ?_, ?_, ?_, fun x hx => ?_⟩
      · rw [e3]
        unfold F_X10_abbey_71
        rw [m_gi h0, g3.2.2.1, if_neg hz, m_is h0, qm_ends h0, axB_s, g3.2.2.1]
      · refine hA.x hV.2.2.1 hV.2.2.2.2.1 ?_ ?_ (fun k hk => ?_) (fun x hx => ?_)
        · rw [ax2_j _ _ _ _ _ (by omega), o31]
          rfl
        · rw [ax2_k, g3.2.2.2.1]
        · rw [ax2_j _ _ _ _ _ (by omega), o3k k (by omega)]
        · unfold scX at hx
          rw [ax2_n _ _ _ _ (by omega), o3 x (by omega) (by omega)]
      · rw [ax2_j _ _ _ _ _ (by omega), o30]
      · rw [ax2_n _ _ _ _ (by omega), o3 x (by omega) (by omega)]
    · rw [eo] at rr
      obtain ⟨f3, e3, g3, hF3, r3⟩ := rr
      obtain ⟨o3, o30, o31, o3k⟩ := G3 f3 r3
      have hw2 : q_fw z.1 := q_cls_w q_f0_w (Nat.zero_le n) eo
      have hF4 : FAm (ax2 f3 m 3 (-1)) m z.1 := hF3.fr fun i _ => ax2_n _ _ _ _ (by omega)
      obtain ⟨f5, e5, y1, y2, ⟨y3, y4, y5, y6, y7⟩, y8, y9⟩ := qm_anew (N := N) hN hm hF4 hw2
      refine ⟨f5, ?_, ⟨⟨hm, y1, q_fw_msk hw2, ⟨y3, by decide, fun k q hq => by cases hq⟩, Or.inl rfl, y2, q_beg_ok hw2, rfl⟩, ⟨y4, by omega, fun _ => 0, fun k hk => absurd hk (Nat.not_lt_zero _), fun i _ hi => absurd rfl hi⟩, ?_, fun j hj => ?_, ?_, y6, ?_, ?_, y5, fun w hw => absurd hw (Nat.not_lt_zero _), y7, fun i hi => absurd hi (Nat.not_lt_zero _)⟩, ?_, fun x hx => ?_⟩
      · rw [e3]
        unfold F_X10_abbey_71
        have t2 : f5 (m + 4) 2 = z.1 0 5 := by
          have e := rdG_0 y1 (show 5 < 7 by omega)
          exact e
        rw [m_gi h0, g3.2.2.1, if_pos rfl, m_pi h0, m_is h0, e5, axBV_s, m_gr h0 (hm.2.1 12 4 rfl), m_ld7_2 (hm.2.2.1 4 _ rfl), t2]
      · rw [y9 1 (by omega) (by omega) (by omega) (by omega) (by omega), ax2_j _ _ _ _ _ (by omega), o31]
        rfl
      · rw [y8 _ (by omega) (by omega), ax2_n _ _ _ _ (by omega), o3 _ (by omega) (by omega), k2 j hj]
      · rw [y9 3 (by omega) (by omega) (by omega) (by omega) (by omega), ax2_k]
      · rw [y8 _ (by omega) (by omega), ax2_n _ _ _ _ (by omega), o3 _ (by omega) (by omega), k5]
      · rw [y8 _ (by omega) (by omega), ax2_n _ _ _ _ (by omega), o3 _ (by omega) (by omega), k6]
      · rw [y9 0 (by omega) (by omega) (by omega) (by omega) (by omega), ax2_j _ _ _ _ _ (by omega), o30]
      · rw [y8 _ (by omega) (by omega), ax2_n _ _ _ _ (by omega), o3 x (by omega) (by omega)]
  · rw [m_pi h0, m_gi h0, ax2_j _ _ _ _ _ (by omega), k1, m_in, axB_s, if_neg c, if_pos rfl, m_is h0]
    exact qm_badT1 N hm _ _
end
