/-! what both objects hold -/
abbrev QI : Type := Nat → Nat × QR × (Nat → QR)
def CA (Z : AxS) (b : Nat) (f : Nat → Nat → Int32) (ψ : QF) (l : QL) (r β : QR) (nl nb : Nat) (t : QR) (pl rs c0 c1 : Int32) (nw : Nat) (wk : Nat → QR) (ni : Nat) (im : QI) : Prop := (∃ fa sf la sl bo sb, HC Z b fa sf la sl bo sb f ψ l r ∧ clB f bo β nl) ∧ fitC f b ψ l β ∧ TXz Z ∧ f (b + 1) 1 = Int32.ofNat nb ∧ (∀ j, j < 600 → f (b + 2) j = t j) ∧ f (b + 1) 5 = pl ∧ f b 13 = rs ∧ f b 14 = c0 ∧ f b 15 = c1 ∧ f (b + 37) 1 = Int32.ofNat nw ∧ (∀ w, w < nw → rdSt f (b + 39 + 3 * w) = wk w) ∧ f b 12 = Int32.ofNat ni ∧ ∀ i, i < ni → f (b + 158 + 54 * i) 1 = Int32.ofNat (im i).1 ∧ rdSt f (b + 155 + 54 * i) = (im i).2.1 ∧ ∀ w, w < (im i).1 → rdSt f (b + 160 + 54 * i + 3 * w) = (im i).2.2 w
def rdI (f : Nat → Nat → Int32) (a o : Nat) : QR := fun k => if k < 29 then f a (o + k) else 0
def MA (Z : AxS) (m : Nat) (f : Nat → Nat → Int32) (ψ : QF) (l : QL) (r β : QR) (nl nb : Nat) (t : QR) (pl rs c0 c1 : Int32) (nw : Nat) (wk : Nat → QR) (ni : Nat) (im : QI) : Prop := HM Z m f ψ l r ∧ mlB f m β nl ∧ f m 1 = Int32.ofNat nb ∧ (∀ j, j < 600 → f (m + 1) j = t j) ∧ f m 3 = pl ∧ f m 33 = rs ∧ f (m + 2) 0 = c0 ∧ f (m + 2) 1 = c1 ∧ f m 32 = Int32.ofNat nw ∧ (∀ w, w < nw → rdM f (m + 443 + w) = wk w) ∧ f m 34 = Int32.ofNat ni ∧ ∀ i, i < ni → f (m + 460 + i) 0 = Int32.ofNat (im i).1 ∧ rdI f (m + 460 + i) 1 = (im i).2.1 ∧ ∀ w, w < (im i).1 → rdI f (m + 460 + i) (30 + 29 * w) = (im i).2.2 w
def VA (ψ : QF) (nb : Nat) (t : QR) (nw : Nat) (wk : Nat → QR) (ni : Nat) (im : QI) : Prop := nb ≤ 600 ∧ (∀ j, j < 600 → ∃ x, x ≤ 255 ∧ t j = Int32.ofNat x) ∧ nw ≤ 16 ∧ (∀ w, w < nw → q_ok ψ 999 (wk w) ∧ wk w 12 = 0) ∧ ni ≤ 3 ∧ ∀ i, i < ni → (im i).1 ≤ 16 ∧ (q_ok ψ 999 (im i).2.1 ∧ (im i).2.1 12 = 0) ∧ ∀ w, w < (im i).1 → q_ok ψ 999 ((im i).2.2 w) ∧ (im i).2.2 w 12 = 0
theorem VA.t {ψ : QF} {nb nw ni : Nat} {t : QR} {wk : Nat → QR} {im : QI} (h : VA ψ nb t nw wk ni im) {n : Nat} (hn : n ≤ nb) : ∀ j, j < n → t j ≠ -1 := fun j hj e => by
  obtain ⟨x, x1, x2⟩ := h.2.1 j (by have := h.1; omega)
  rw [x2] at e
  have := congrArg Int32.toInt e
  rw [qi_i (by omega)] at this
  exact absurd this (by
    rw [show (-1 : Int32).toInt = -1 from by decide]
    omega)
theorem fitC.e {f g : Nat → Nat → Int32} {b : Nat} {ψ : QF} {l : QL} {β : QR} (h : fitC f b ψ l β) (e : ∀ x, b + 88 ≤ x → x ≤ b + 150 → g x = f x) : fitC g b ψ l β := by
  have e0 := e (b + 88) (by omega) (by omega)
  rcases h with h | ⟨h, hk⟩
  · exact Or.inl (by rw [e0, h])
  · refine Or.inr ⟨by rw [e0, h], ?_⟩
    unfold fitK at hk ⊢
    rw [e0]
    exact hk
/-- what one call may change, besides its own -/
def CFa (b : Nat) (f f' : Nat → Nat → Int32) : Prop := ∀ x, ¬ (b ≤ x ∧ x ≤ b + 315) → f' x = f x
def MFa (m : Nat) (f f' : Nat → Nat → Int32) : Prop := ∀ x, ¬ (m ≤ x ∧ x ≤ m + 530) → f' x = f x
def CZa (b : Nat) (Z Z' : AxS) : Prop := Z'.1.2 = Z.1.2 ∧ Z'.2.1 = Z.2.1 ∧ (∀ x k, x ≠ b → axP Z' x k = axP Z x k) ∧ Z'.2.2.2.2 = Z.2.2.2.2
theorem CZa.rf (b : Nat) (Z : AxS) : CZa b Z Z := ⟨rfl, rfl, fun _ _ _ => rfl, rfl⟩
theorem CZa.sw (b : Nat) (Z : AxS) (k x y : Nat) : CZa b Z (q_sw Z b k x y) := ⟨rfl, rfl, fun a j h => q_sw_n _ _ _ _ _ _ h, rfl⟩
theorem TXz.z {Z Z' : AxS} (h : TXz Z) (h1 : Z'.1.2 = Z.1.2) (h2 : Z'.2.1 = Z.2.1) : TXz Z' := fun i hi => by
  obtain ⟨j, e1, e2⟩ := h i hi
  refine ⟨j, ?_, e2⟩
  unfold axL axTx at e1 ⊢
  rw [h1, h2]
  exact e1
section
variable {Z : AxS} {b m N : Nat} {f : Nat → Nat → Int32} {ψ : QF} {l : QL} {r β : QR} {nl nb : Nat} {t : QR} {pl rs c0 c1 : Int32} {nw : Nat} {wk : Nat → QR} {ni : Nat} {im : QI}
theorem q_beg_ok {φ : QF} (h : q_fw φ) : q_ok (q_msk φ) 999 (q_beg φ (φ 0 0)) := by
  obtain ⟨⟨nv, nc, nm, nh, a1, a2, a3, a4, a5, a6, a7, a8, -⟩, -, ⟨ow, o1, o2⟩, ⟨ch, h1, h2⟩, -⟩ := h
  refine ⟨⟨0, by omega, rfl⟩, Or.inl rfl, Or.inl ⟨rfl, rfl⟩, fun m hm => ⟨m, hm, q_beg_b _ _ ?_⟩, ⟨ow, by omega, o2⟩, ch, by omega, h2⟩
  rw [show q_msk φ 0 5 = φ 0 5 from rfl, a3, qi_tn (by omega)] at hm
  omega
theorem q_cls_w {n : Nat} {t : QR} : ∀ {k p cnt : Nat} {φ : QF} {z : QF × Nat}, q_fw φ → p ≤ n → q_cls t n k p φ cnt = .inr z → q_fw z.1 := by
  intro k
  induction k with
  | zero =>
    intro p cnt φ z hw hp e
    cases e
    exact hw
  | succ k ih =>
    intro p cnt φ z hw hp e
    by_cases c : n ≤ q_bl t n p
    · rw [q_cls_e _ c] at e
      cases e
      exact hw
    · rcases eo : q_clause t n (q_bl t n p) φ cnt with y | y
      · rw [q_cls_l c eo] at e
        cases e
      · rw [q_cls_r c eo] at e
        obtain ⟨a1, a2, a3, a4⟩ := (q_clause_r (t := t) (cnt := cnt) hw (q_skp_b q_isB t hp).2.1).2 y eo
        exact ih a3 a2 e
theorem q_cls_k {n : Nat} {t : QR} : ∀ {k p cnt : Nat} {φ : QF} {z : Int32 × Int32}, q_fw φ → p ≤ n → q_cls t n k p φ cnt = .inl z → z.1 ≠ 0 := by
  intro k
  induction k with
  | zero =>
    intro p cnt φ z hw hp e
    cases e
  | succ k ih =>
    intro p cnt φ z hw hp e
    by_cases c : n ≤ q_bl t n p
    · rw [q_cls_e _ c] at e
      cases e
    · have rr := q_clause_r (t := t) (cnt := cnt) hw (q_skp_b q_isB t hp).2.1
      rcases eo : q_clause t n (q_bl t n p) φ cnt with y | y
      · rw [q_cls_l c eo] at e
        cases e
        exact rr.1 _ eo
      · rw [q_cls_r c eo] at e
        obtain ⟨a1, a2, a3, a4⟩ := rr.2 y eo
        exact ih a3 a2 e
/-- the class reads an abbey -/
theorem qc_abbey (hN : 2000 < N) (h : CA Z b f ψ l r β nl nb t pl rs c0 c1 nw wk ni im) (hV : VA ψ nb t nw wk ni im) (x : Int32) : (∀ n, x = Int32.ofNat n → n ≤ nb → match q_cls t n 601 0 q_f0 0 with
    | .inl z => ∃ Z' f', F_X9_abbey N b x (axM Z f) = some (.inl (z.1 - 10), axM Z' f') ∧ CA Z' b f' ψ l r β nl 0 t z.2 rs c0 c1 nw wk ni im ∧ CFa b f f' ∧ CZa b Z Z'
    | .inr z => ∃ Z' f', F_X9_abbey N b x (axM Z f) = some (.inl (z.1 0 5), axM Z' f') ∧ CA Z' b f' (q_msk z.1) [] (q_beg z.1 (z.1 0 0)) (fun _ => -1) 0 0 t (-1) 0 c0 c1 0 wk 0 im ∧ CFa b f f' ∧ CZa b Z Z') ∧ (¬ (0 ≤ x ∧ x ≤ Int32.ofNat nb) → CTz Z b f (F_X9_abbey N b x (axM Z f)) q_iae 15) := by
  obtain ⟨⟨fa, sf, la, sl, bo, sb, hH, hB⟩, hK, hT, k1, k2, k3, k4, k5, k6, k7, k8, k9, k10⟩ := h
  obtain ⟨hC, hF, hw, hl, hlw, hR, hok⟩ := hH
  have hCC := hC
  obtain ⟨⟨a0, a1, a2, a3, a4, a5, a6⟩, ⟨d1, d2, d3, d4, d5, d6⟩, q1, q2, q3, ⟨e0, e1⟩, -⟩ := hCC
  unfold F_X9_abbey F_X9_abbey_20
  refine ⟨fun n hx hn => ?_, fun c => ?_⟩
  · subst hx
    have hnb := hV.1
    rw [if_neg (qi_nn (by omega)), m_gr a0 e0, m_gi e1.1, k1, if_neg (qi_ngt hn (by omega))]
    unfold F_X9_abbey_21
    rw [qc_needO a0, m_gr a0 e0]
    unfold F_X7_open F_X1_readFrom
    have hu := e1.1
    rw [m_is hu, m_pi hu, m_pi hu, m_pi hu, m_pi hu, m_pi hu, axBV_s, m_gr a0 a2, m_gr a0 e0, m_is d2.1]
    obtain ⟨f1, w1, hF1, fr1⟩ := qc_clear (N := N) (f := ax2 (ax2 (ax2 (ax2 (ax2 f (b + 1) 2 (Int32.ofNat n)) (b + 1) 3 0) (b + 1) 4 0) (b + 1) 5 (-1)) (b + 1) 1 0) (by omega) d2
    have hsf : b + 1 + 1 < sf ∧ sf + 5 < b + 15 := by clear q2 q3; omega
    have hfa : b + 1 + 1 < fa ∧ fa + 5 < b + 15 := by clear q2 q3; omega
    have hfs : fa + 5 < sf ∨ sf + 5 < fa := by clear q2 q3; omega
    have hla : b + 14 < la ∧ la + 3 < b + 23 := by clear q1 q3; omega
    have hbo : b + 22 < bo ∧ bo + 1 < b + 27 := by clear q1 q2; omega
    clear q1 q2 q3
    have fu1 : f1 (b + 1) = ax2 (ax2 (ax2 (ax2 (ax2 f (b + 1) 2 (Int32.ofNat n)) (b + 1) 3 0) (b + 1) 4 0) (b + 1) 5 (-1)) (b + 1) 1 0 (b + 1) := fr1 _ (by omega) (by omega)
    have hct : CT f1 (b + 1) t n 0 0 (-1) := by
      unfold CT
      rw [fu1, fr1 (b + 1 + 1) (by omega) (by omega)]
      exact ⟨by simp [ax2_a], by simp [ax2_a], by simp [ax2_a], by simp [ax2_a], fun j hj => by simp only [ax2_n _ _ _ _ (show b + 1 + 1 ≠ b + 1 by omega)]; exact k2 j hj, by omega, Nat.zero_le _⟩
    have hu1 : f1 (b + 1) 1 = 0 := by rw [fu1, ax2_k]
    have out1 : ∀ x, x ≠ b + 1 → ¬ (sf ≤ x ∧ x ≤ sf + 5) → f1 x = f x := fun x p q => by rw [fr1 x (by omega) (by omega)]; simp only [ax2_n _ _ _ _ p]
    have rr := qc_cls_l (N := N) (f0 := f1) hN e1 d2 hT hsf.1 (hV.t hn) 601 0 0 N q_f0 f1 (by omega) (by omega) (by omega) hct hF1 q_f0_w ⟨fun _ _ _ => rfl, rfl⟩
    rw [w1, axBV_s]
    change QCs Z (b + 1) sf t n (-1) f1 (F_X1_readFrom_6 N N sf (b + 1) 0 (axM Z f1)) (q_cls t n 601 0 q_f0 0) at rr
    have G2 : ∀ f2, RFc (b + 1) sf f1 f2 → (∀ x, x ≠ b + 1 → ¬ (sf ≤ x ∧ x ≤ sf + 5) → f2 x = f x) ∧ f2 (b + 1) 1 = 0 := fun f2 hr => ⟨fun x p q => by rw [hr.1 x p q, out1 x p q], by rw [hr.2, hu1]⟩
    rcases eo : q_cls t n 601 0 q_f0 0 with z | z
    · rw [eo] at rr
      obtain ⟨f2, q, w2, g2, hr2⟩ := rr
      obtain ⟨o2, u2⟩ := G2 f2 hr2
      have ob : f2 b = f b := o2 b (by omega) (by omega)
      refine ⟨Z, f2, ?_, ⟨⟨fa, sf, la, sl, bo, sb, ⟨hC, ?_, hw, hl.e (o2 _ (by omega) (by omega)) (o2 _ (by omega) (by omega)), hlw, ?_, hok⟩, ?_⟩, ?_, hT, u2, fun j hj => ?_, g2.2.2.2.1, by rw [ob, k4], by rw [ob, k5], by rw [ob, k6], by rw [o2 _ (by omega) (by omega), k7], fun w hw => ?_, by rw [ob, k9], fun i hi => ?_⟩, fun x hx => o2 x (by omega) (by omega), CZa.rf _ _⟩
      · rw [w2, m_is d2.1, axB_s, if_pos rfl, m_gr a0 e0, m_gi hu, g2.2.2.1]
      · rw [← hF]
        exact rdF_e fun x p q => o2 x (by omega) (by omega)
      · rw [← hR]
        exact rdSt_e (o2 _ (by omega) (by omega)) (o2 _ (by omega) (by omega)) (o2 _ (by omega) (by omega))
      · unfold clB at hB ⊢
        rw [o2 bo (by omega) (by omega), o2 (bo + 1) (by omega) (by omega)]
        exact hB
      · exact fitC.e hK fun x p q => o2 x (by omega) (by omega)
      · rw [← g2.2.2.2.2.1 j hj]
      · rw [← k8 w hw]
        exact rdSt_e (o2 _ (by omega) (by omega)) (o2 _ (by omega) (by omega)) (o2 _ (by omega) (by omega))
      · obtain ⟨v1, v2, v3⟩ := k10 i hi
        refine ⟨by rw [o2 _ (by omega) (by omega), v1], ?_, fun w hw => ?_⟩
        · rw [← v2]
          exact rdSt_e (o2 _ (by omega) (by omega)) (o2 _ (by omega) (by omega)) (o2 _ (by omega) (by omega))
        · rw [← v3 w hw]
          exact rdSt_e (o2 _ (by omega) (by omega)) (o2 _ (by omega) (by omega)) (o2 _ (by omega) (by omega))
    · rw [eo] at rr
      obtain ⟨f2, w2, g2, hF2, hr2⟩ := rr
      obtain ⟨o2, u2⟩ := G2 f2 hr2
      have ob : f2 b = f b := o2 b (by omega) (by omega)
      have hC' := hC.swf
      have hw2 : q_fw z.1 := q_cls_w q_f0_w (Nat.zero_le n) eo
      obtain ⟨f3, w3, y1, y2, y3, y4, y5, y6, y7, y8, y9⟩ := qc_anew (N := N) (f := f2) (ψ := z.1) hN hC' (hF2.1 0 (by omega)) (hF2.1 2 (by omega))
      have z0 : axL (q_sw Z b 1 fa sf) b = some (0, 9) := a0
      refine ⟨q_sw Z b 1 fa sf, f3, ?_, ⟨⟨sf, fa, la, sl, bo, sb, ⟨hC', ?_, q_fw_msk hw2, y1, Or.inl rfl, y4, q_beg_ok hw2⟩, y2⟩, Or.inl y3, hT.z rfl rfl, by rw [y8 _ (by omega) (by omega), u2]; rfl, fun j hj => ?_, ?_, y7, by rw [y9 _ (by omega) (by omega), ob, k5], by rw [y9 _ (by omega) (by omega), ob, k6], y5, fun w hw => absurd hw (Nat.not_lt_zero _), y6, fun i hi => absurd hi (Nat.not_lt_zero _)⟩, fun x hx => by rw [y8 x (by omega) (by omega), o2 x (by omega) (by omega)], CZa.sw _ _ _ _ _⟩
      · rw [w2, m_is d2.1, axB_s, if_neg (show ¬ (1 : Int32) = 0 by decide), m_gr a0 a2, m_gr a0 a1, m_pr a0, m_pr (Z := axSP Z b 2 (some fa)) a0, show axSP (axSP Z b 2 (some fa)) b 1 (some sf) = q_sw Z b 1 fa sf from rfl, m_is z0, w3, axBV_s, m_gr z0 hC'.1.2.1, m_gi hC'.2.1.1.1, y8 sf (by omega) (by omega), hF2.1 5 (by omega)]
      · exact FAc.rd (hF2.fr fun i hi => y8 _ (by omega) (by omega))
      · rw [y8 _ (by omega) (by omega)]
        exact g2.2.2.2.2.1 j hj
      · rw [y8 _ (by omega) (by omega)]
        exact g2.2.2.2.1
  · unfold F_X9_abbey_21
    have key : ∀ K : Unit → AxS → Option (AxT Int32), CTz Z b f (ax_is (axM Z f) b 9 (axBT (F_X9_needArgument N b 0 (axM Z f)) K)) q_iae 15 := fun K => by
      rw [qc_needT a0]
      exact ⟨_, rfl, fun _ _ => rfl⟩
    by_cases c1 : x < 0
    · rw [if_pos c1]
      exact key _
    · rw [if_neg c1, m_gr a0 e0, m_gi e1.1, k1, if_pos (Int32.not_le.mp fun q => c ⟨Int32.not_lt.mp c1, q⟩)]
      exact key _
end
