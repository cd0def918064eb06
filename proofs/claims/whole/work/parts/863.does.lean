/-! one step done: what becomes of the row -/
def q_dos (ψ : QF) (l : QL) (q : QE) (r : QR) : Bool × QR :=
  if q.1 = 0 then (q_can r (Int32.ofNat q.2.1), q_pay (Int32.ofNat q.2.1) r)
  else if q.1 = 1 then (decide (¬ q_bit (r 11) (Int32.ofNat q.2.1) = 1), q_give (Int32.ofNat q.2.1) (ψ 2 q.2.1) r)
  else if q.1 = 2 then (decide (¬ r 5 = 1), q_set r 5 1)
  else if q.1 = 3 then (decide (r 6 ≤ 0), if r 6 ≤ 0 then q_set (q_set r 6 (Int32.ofNat q.2.1)) 7 7 else r)
  else if q.1 = 4 then (decide (¬ q.2.1 = q.2.2.1), q_swap q.2.1 q.2.2.1 r)
  else (decide (r 2 < 999), if r 2 < 999 then q_night ψ l 0 r else r)
theorem q_if10 {c : Prop} [Decidable c] : (if c then (1 : Int32) else 0) = 0 ∨ (if c then (1 : Int32) else 0) = 1 := by
  by_cases h : c
  · rw [if_pos h]
    exact Or.inr rfl
  · rw [if_neg h]
    exact Or.inl rfl
theorem q_if01 {c : Prop} [Decidable c] : (if c then (0 : Int32) else 1) = 0 ∨ (if c then (0 : Int32) else 1) = 1 := by
  by_cases h : c
  · rw [if_pos h]
    exact Or.inl rfl
  · rw [if_neg h]
    exact Or.inr rfl
section
variable {Z : AxS} {b fa sf la sl bo sb m N : Nat} {f : Nat → Nat → Int32} {ψ : QF} {l : QL} {r : QR} {q : QE}
theorem q_dos_ok (hw : q_fw ψ) (h : q_ok ψ 999 r) (h12 : r 12 = 0) (hv : q_evl ψ q) (hq : q.1 < 6) : q_ok ψ 999 (q_dos ψ l q r).2 ∧ (q_dos ψ l q r).2 12 = 0 := by
  obtain ⟨-, v0, v1, v4, -⟩ := hv
  obtain ⟨⟨nv, n1, n2, n3⟩, -, ⟨nm, m1, m2, m3⟩, -⟩ := q_fw_n hw
  have h' := h
  obtain ⟨o1, o2, o3, o4, o5, o6⟩ := h'
  unfold q_dos
  by_cases c0 : q.1 = 0
  · rw [if_pos c0]
    exact ⟨q_ok_pay (by have := (v0 (Or.inl c0)).2; omega) h, by rw [show (q_can r (Int32.ofNat q.2.1), q_pay (Int32.ofNat q.2.1) r).2 12 = q_pay (Int32.ofNat q.2.1) r 12 from rfl, q_pay_12, h12]⟩
  rw [if_neg c0]
  by_cases c1 : q.1 = 1
  · rw [if_pos c1]
    have a1 := v1 c1
    obtain ⟨⟨x1, x2, x3, x4, y1, -, -, -, y9, -, -, -, y2, -⟩, -⟩ := hw
    rw [y1, qi_tn (by omega)] at a1
    obtain ⟨x, z1, z2, z3⟩ := y2 q.2.1 a1
    rw [z3]
    refine ⟨q_ok_give _ (by omega) h, ?_⟩
    show q_give _ _ r 12 = 0
    unfold q_give
    by_cases cb : q_bit (r 11) (Int32.ofNat q.2.1) = 1
    · rw [if_pos cb, h12]
    · rw [if_neg cb]
      exact h12
  rw [if_neg c1]
  by_cases c2 : q.1 = 2
  · rw [if_pos c2]
    exact ⟨⟨o1, Or.inr rfl, o3, fun j hj => by rw [show (decide (¬ r 5 = 1), q_set r 5 1).2 (13 + j) = r (13 + j) from if_neg (by omega)]; exact o4 j hj, o5, o6⟩, h12⟩
  rw [if_neg c2]
  by_cases c3 : q.1 = 3
  · rw [if_pos c3]
    show q_ok ψ 999 (if r 6 ≤ 0 then q_set (q_set r 6 (Int32.ofNat q.2.1)) 7 7 else r) ∧ (if r 6 ≤ 0 then q_set (q_set r 6 (Int32.ofNat q.2.1)) 7 7 else r) 12 = 0
    by_cases c6 : r 6 ≤ 0
    · rw [if_pos c6]
      obtain ⟨a1, a2⟩ := v0 (Or.inr c3)
      exact ⟨⟨o1, o2, Or.inr ⟨show (0 : Int32) < Int32.ofNat q.2.1 from qi_gt (i := 0) (by omega) (by omega), 7, by omega, by omega, rfl⟩, fun j hj => by rw [show q_set (q_set r 6 (Int32.ofNat q.2.1)) 7 7 (13 + j) = r (13 + j) from Eq.trans (if_neg (by omega)) (if_neg (by omega))]; exact o4 j hj, o5, o6⟩, h12⟩
    · rw [if_neg c6]
      exact ⟨h, h12⟩
  rw [if_neg c3]
  by_cases c4 : q.1 = 4
  · rw [if_pos c4]
    obtain ⟨a1, a2⟩ := v4 c4
    show q_ok ψ 999 (q_swap q.2.1 q.2.2.1 r) ∧ q_swap q.2.1 q.2.2.1 r 12 = 0
    have e : ∀ k, q_swap q.2.1 q.2.2.1 r k = if k = 13 + q.2.2.1 then r (13 + q.2.1) else if k = 13 + q.2.1 then r (13 + q.2.2.1) else r k := fun k => rfl
    refine ⟨⟨?_, ?_, ?_, fun j hj => ?_, ?_, ?_⟩, ?_⟩
    · rw [e 2, if_neg (by omega), if_neg (by omega)]
      exact o1
    · rw [e 5, if_neg (by omega), if_neg (by omega)]
      exact o2
    · rw [e 6, if_neg (by omega), if_neg (by omega), e 7, if_neg (by omega), if_neg (by omega)]
      exact o3
    · rw [e]
      by_cases x1 : 13 + j = 13 + q.2.2.1
      · rw [if_pos x1]
        exact o4 _ a1
      rw [if_neg x1]
      by_cases x2 : 13 + j = 13 + q.2.1
      · rw [if_pos x2]
        exact o4 _ a2
      rw [if_neg x2]
      exact o4 j hj
    · rw [e 0, if_neg (by omega), if_neg (by omega)]
      exact o5
    · rw [e 1, if_neg (by omega), if_neg (by omega)]
      exact o6
    · rw [e 12, if_neg (by omega), if_neg (by omega), h12]
  rw [if_neg c4]
  show q_ok ψ 999 (if r 2 < 999 then q_night ψ l 0 r else r) ∧ (if r 2 < 999 then q_night ψ l 0 r else r) 12 = 0
  by_cases c9 : r 2 < 999
  · rw [if_pos c9]
    obtain ⟨n, k1, k2⟩ := o1
    rw [k2, show (999 : Int32) = Int32.ofNat 999 from rfl, qi_lt (by omega) (by omega)] at c9
    exact ⟨q_ok_night (B := 998) l 0 hw (by omega) ⟨⟨n, by omega, k2⟩, o2, o3, o4, o5, o6⟩, by rw [q_night_12, h12]⟩
  · rw [if_neg c9]
    exact ⟨h, h12⟩
theorem HC.now {r' : QR} {g : Nat → Nat → Int32} (h : HC Z b fa sf la sl bo sb f ψ l r) (e : ∀ x, ¬ (x = b + 17 ∨ x = b + 18 ∨ x = b + 21 ∨ x = b + 22 ∨ x = b + 31 ∨ x = b + 32 ∨ x = b + 33) → g x = f x) (hR : rdSt g (b + 31) = r') (hok : q_ok ψ 999 r') : HC Z b fa sf la sl bo sb g ψ l r' := by
  obtain ⟨hC, hF, hw, hl, hlw, -, -⟩ := h
  have d1 := hC.2.2.1
  have d2 := hC.2.2.2.1
  refine ⟨hC, ?_, hw, hl.e (e _ (by omega)) (e _ (by omega)), hlw, hR, hok⟩
  rw [← hF]
  exact rdF_e fun x p q => e x (by clear d2; omega)
theorem qc_dos (hN : 2000 < N) (h : HC Z b fa sf la sl bo sb f ψ l r) (h12 : r 12 = 0) (hv : q_evl ψ q) (hq : q.1 < 6) {x y : Int32} (hx : q.1 ≠ 2 → q.1 ≠ 5 → x = Int32.ofNat q.2.1) (hy : q.1 = 4 → y = Int32.ofNat q.2.2.1) : ∃ f', F_X9_doStep N b (Int32.ofNat (q.1 + 1)) x y (axM Z f) = some (if (q_dos ψ l q r).1 = true then 1 else 0, axM Z f') ∧ HC Z b fa sf la sl bo sb f' ψ l (q_dos ψ l q r).2 ∧ ∀ z, ¬ (z = b + 17 ∨ z = b + 18 ∨ z = b + 21 ∨ z = b + 22 ∨ z = b + 31 ∨ z = b + 32 ∨ z = b + 33) → f' z = f z := by
  have hH := h
  obtain ⟨hC, hF, hw, hl, hlw, hR, hok⟩ := h
  have OK := q_dos_ok (l := l) hw hok h12 hv hq
  obtain ⟨-, v0, v1, v4, -⟩ := hv
  obtain ⟨⟨nv, n1, n2, n3⟩, -, ⟨nm, m1, m2, m3⟩, -⟩ := q_fw_n hw
  have a0 := hC.1.1
  have p1 := hC.1.2.1
  obtain ⟨p8, hst⟩ := hC.2.2.2.2.2.2.2.1
  have hf0 := hC.2.1.1.1
  obtain ⟨f8, f8s⟩ := hC.2.1.1.2.2.1
  have dla := hC.2.2.2.1
  unfold F_X9_doStep
  unfold q_dos at OK ⊢
  by_cases c0 : q.1 = 0
  · rw [if_pos c0] at OK ⊢
    obtain ⟨f1, e1, g1, r1⟩ := qc_pays (f := f) N (Int32.ofNat q.2.1) hst
    rw [hR] at e1 g1
    rw [c0, if_pos (show Int32.ofNat (0 + 1) = 1 by decide), m_gr a0 p8, m_is hst.1, hx (by omega) (by omega), e1, axB_s, m_rz q_if10]
    exact ⟨f1, rfl, hH.now (fun z hz => r1 z (by omega)) g1 OK.1, fun z hz => r1 z (by omega)⟩
  rw [if_neg c0] at OK ⊢
  by_cases c1 : q.1 = 1
  · rw [if_pos c1] at OK ⊢
    have a1 := v1 c1
    have e2 : f (fa + 2) q.2.1 = ψ 2 q.2.1 := rdF_2 hF a1
    obtain ⟨f1, e1, g1, r1⟩ := qc_gives (f := f) N (Int32.ofNat q.2.1) (ψ 2 q.2.1) hst
    rw [hR] at e1 g1
    rw [c1, if_neg (show ¬ Int32.ofNat (1 + 1) = 1 by decide), if_pos (show Int32.ofNat (1 + 1) = 2 by decide), m_gr a0 p8, m_gr a0 p1, m_gr hf0 f8, hx (by omega) (by omega), m_atn N f8s (show q.2.1 < 6 by omega) (by omega), axB_s, e2, m_is hst.1, e1, axB_s, m_rz q_if01]
    refine ⟨f1, ?_, hH.now (fun z hz => r1 z (by omega)) g1 OK.1, fun z hz => r1 z (by omega)⟩
    by_cases cb : q_bit (r 11) (Int32.ofNat q.2.1) = 1
    · rw [if_pos cb, if_neg (by rw [decide_eq_true_eq]; exact fun z => z cb)]
    · rw [if_neg cb, if_pos (decide_eq_true cb)]
  rw [if_neg c1] at OK ⊢
  by_cases c2 : q.1 = 2
  · rw [if_pos c2] at OK ⊢
    obtain ⟨f1, e1, g1, r1⟩ := qc_waxes (f := f) N hst
    rw [hR] at e1 g1
    rw [c2, if_neg (show ¬ Int32.ofNat (2 + 1) = 1 by decide), if_neg (show ¬ Int32.ofNat (2 + 1) = 2 by decide), if_pos (show Int32.ofNat (2 + 1) = 3 by decide), m_gr a0 p8, m_is hst.1, e1, axB_s, m_rz q_if01]
    refine ⟨f1, ?_, hH.now (fun z hz => r1 z (by omega)) g1 OK.1, fun z hz => r1 z (by omega)⟩
    by_cases cb : r 5 = 1
    · rw [if_pos cb, if_neg (by rw [decide_eq_true_eq]; exact fun z => z cb)]
    · rw [if_neg cb, if_pos (decide_eq_true cb)]
  rw [if_neg c2] at OK ⊢
  by_cases c3 : q.1 = 3
  · rw [if_pos c3] at OK ⊢
    obtain ⟨f1, e1, g1, r1⟩ := qc_hangUp (f := f) N (Int32.ofNat q.2.1) hst
    rw [hR] at e1 g1
    rw [c3, if_neg (show ¬ Int32.ofNat (3 + 1) = 1 by decide), if_neg (show ¬ Int32.ofNat (3 + 1) = 2 by decide), if_neg (show ¬ Int32.ofNat (3 + 1) = 3 by decide), if_pos (show Int32.ofNat (3 + 1) = 4 by decide), m_gr a0 p8, m_is hst.1, hx (by omega) (by omega), e1, axB_s, m_rz q_if10]
    refine ⟨f1, ?_, hH.now (fun z hz => r1 z (by omega)) g1 OK.1, fun z hz => r1 z (by omega)⟩
    by_cases cb : r 6 ≤ 0
    · rw [if_pos cb, if_pos (decide_eq_true cb)]
    · rw [if_neg cb, if_neg (by rw [decide_eq_true_eq]; exact cb)]
  rw [if_neg c3] at OK ⊢
  by_cases c4 : q.1 = 4
  · rw [if_pos c4] at OK ⊢
    obtain ⟨a1, a2⟩ := v4 c4
    obtain ⟨f1, e1, g1, r1⟩ := qc_swaps (f := f) N (i := q.2.1) (j := q.2.2.1) (by omega) (by omega) hst
    rw [hR] at g1
    rw [c4, if_neg (show ¬ Int32.ofNat (4 + 1) = 1 by decide), if_neg (show ¬ Int32.ofNat (4 + 1) = 2 by decide), if_neg (show ¬ Int32.ofNat (4 + 1) = 3 by decide), if_neg (show ¬ Int32.ofNat (4 + 1) = 4 by decide), if_pos (show Int32.ofNat (4 + 1) = 5 by decide), m_gr a0 p8, m_is hst.1, hx (by omega) (by omega), hy c4, e1, axB_s, m_rz q_if01]
    refine ⟨f1, ?_, hH.now (fun z hz => r1 z (by omega)) g1 OK.1, fun z hz => r1 z (by omega)⟩
    by_cases cb : q.2.1 = q.2.2.1
    · rw [if_pos cb, if_neg (by rw [decide_eq_true_eq]; exact fun z => z cb)]
    · rw [if_neg cb, if_pos (decide_eq_true cb)]
  rw [if_neg c4] at OK ⊢
  have c5 : q.1 = 5 := by omega
  have e2 : f (b + 31) 2 = r 2 := by rw [← hR]; rfl
  rw [c5, if_neg (show ¬ Int32.ofNat (5 + 1) = 1 by decide), if_neg (show ¬ Int32.ofNat (5 + 1) = 2 by decide), if_neg (show ¬ Int32.ofNat (5 + 1) = 3 by decide), if_neg (show ¬ Int32.ofNat (5 + 1) = 4 by decide), if_neg (show ¬ Int32.ofNat (5 + 1) = 5 by decide), if_pos (show Int32.ofNat (5 + 1) = 6 by decide), m_gr a0 p8, m_gi hst.1, e2]
  by_cases c9 : r 2 < 999
  · obtain ⟨f1, e1, g1, r1⟩ := qc_passNight (N := N) (by omega) hC hst (by omega) hF hw hl hlw (show 999 < 2147483647 by omega) (by rw [hR]; exact hok) 0
    rw [hR] at g1
    simp only [if_pos c9] at OK ⊢
    rw [m_gr a0 p8, m_is a0, e1, axB_s, m_rz1]
    refine ⟨f1, ?_, hH.now (fun z hz => r1 z (by omega) (by omega) (by omega) (by omega)) g1 OK.1, fun z hz => r1 z (by omega) (by omega) (by omega) (by omega)⟩
    rw [if_pos (decide_eq_true c9)]
  · simp only [if_neg c9] at OK ⊢
    rw [m_rz0]
    exact ⟨f, by rw [if_neg (by rw [decide_eq_true_eq]; exact c9)], hH, fun _ _ => rfl⟩
end
