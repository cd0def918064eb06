/-! span -/
def q_spo (ψ : QF) (l : QL) (r : QR) (s q p k : Int32) (t j : Nat) : Int32 := (q_years ψ l q p k t (s + Int32.ofNat j) 0 r).2 0
def q_span (ψ : QF) (l : QL) (r : QR) (s q p k : Int32) (t : Nat) : Nat → Nat → Int32 → Int32 → Int32 → Int32 × Int32 × Int32
  | 0, _, x, y, z => (x, y, z)
  | n + 1, j, x, y, z => q_span ψ l r s q p k t n (j + 1) (q_min x (q_spo ψ l r s q p k t j)) (q_max y (q_spo ψ l r s q p k t j)) (if q_spo ψ l r s q p k t j = 0 then z + 1 else z)
def q_spv (v : Int32 × Int32 × Int32) (w : Int32) : Int32 := if w = 0 then v.1 else if w = 1 then v.2.1 else v.2.2
section
variable {Z : AxS} {b m fa sf la sl bo sb N B : Nat} {ψ : QF} {l : QL} {r ρ : QR} {f f0 : Nat → Nat → Int32}
theorem q_ok_years (hw : q_fw ψ) {k : Nat} (hk : k < 2147483648) (q p : Int32) : ∀ (n j : Nat) (ρ : QR) (s c : Int32), j + n ≤ 96 → q_ok ψ (999 + j) ρ → q_ok ψ (999 + j + n) (q_years ψ l q p (Int32.ofNat k) n s c ρ).2 := by
  intro n
  induction n with
  | zero =>
    intro j ρ s c hj hok
    exact hok
  | succ n ih =>
    intro j ρ s c hj hok
    rw [q_years_s]
    have := ih (j + 1) (q_night ψ l (q_sto q (q_next s)) (q_yp (Int32.ofNat k) (q_yr ψ p (q_next (q_next s)) ρ))) (q_next (q_next s)) (c + q_sto q (q_next s)) (by omega) (q_ok_night l _ hw (show 999 + j < 2147483000 by omega) (q_ok_yp hk (q_ok_yr hw p _ hok)))
    rw [show 999 + j + (n + 1) = 999 + (j + 1) + n by omega]
    exact this
theorem q_spo_n (hw : q_fw ψ) (hok : q_ok ψ 999 r) {t k : Nat} (ht : t ≤ 96) (hk : k < 2147483648) (s q p : Int32) (j : Nat) : ∃ o, o ≤ 99999 ∧ q_spo ψ l r s q p (Int32.ofNat k) t j = Int32.ofNat o := by
  have := q_ok_years (l := l) hw hk q p t 0 r (s + Int32.ofNat j) 0 (by omega) hok
  exact this.2.2.2.2.1
theorem qc_span_l (hN : 200 < N) {t k u : Nat} (ht : t ≤ 96) (hu : u ≤ 20) (hk : k < 2147483648) (s q p w : Int32) : ∀ (n j fu : Nat) (f : Nat → Nat → Int32) (x y z : Int32), j + n = u → n < fu → HC Z b fa sf la sl bo sb f ψ l r → CQz Z b f (F_X9_span_55 N fu b s (Int32.ofNat u) (Int32.ofNat t) q p (Int32.ofNat k) w x y z (Int32.ofNat j) (axM Z f)) (q_spv (q_span ψ l r s q p (Int32.ofNat k) t n j x y z) w) := by
  intro n
  induction n with
  | zero =>
    intro j fu f x y z hj hfu h
    obtain ⟨fu, rfl⟩ : ∃ q, fu = q + 1 := ⟨fu - 1, by omega⟩
    show CQz Z b f (F_X9_span_55b N (F_X9_span_55 N fu) b s (Int32.ofNat u) (Int32.ofNat t) q p (Int32.ofNat k) w x y z (Int32.ofNat j) (axM Z f)) _
    unfold F_X9_span_55b q_spv q_span
    rw [if_pos (qi_ge (by omega) (by omega))]
    refine CQz.mk0 ?_
    by_cases w0 : w = 0
    · rw [if_pos w0, if_pos w0]
    rw [if_neg w0, if_neg w0]
    by_cases w1 : w = 1
    · rw [if_pos w1, if_pos w1]
    rw [if_neg w1, if_neg w1]
  | succ n ih =>
    intro j fu f x y z hj hfu h
    obtain ⟨fu, rfl⟩ : ∃ q, fu = q + 1 := ⟨fu - 1, by omega⟩
    show CQz Z b f (F_X9_span_55b N (F_X9_span_55 N fu) b s (Int32.ofNat u) (Int32.ofNat t) q p (Int32.ofNat k) w x y z (Int32.ofNat j) (axM Z f)) _
    unfold F_X9_span_55b F_X9_span_118
    rw [if_neg (qi_nge (by omega) (by omega))]
    have h0 := h.1.1.1
    have p9 := h.1.2.2.2.2.2.2.2.2.1
    obtain ⟨f1, e1, g1, fr1⟩ := qc_runYears hN h ht hk q p (s + Int32.ofNat j)
    have y0 : f1 (b + 34) 0 = q_spo ψ l r s q p (Int32.ofNat k) t j := by unfold q_spo; rw [← g1]; rfl
    simp only [m_is h0, e1, axB_s, m_gr h0 p9.1, m_gi p9.2.1, m_min, m_max, y0, qi_s]
    have go : ∀ z', CQz Z b f (F_X9_span_55 N fu b s (Int32.ofNat u) (Int32.ofNat t) q p (Int32.ofNat k) w (q_min x (q_spo ψ l r s q p (Int32.ofNat k) t j)) (q_max y (q_spo ψ l r s q p (Int32.ofNat k) t j)) z' (Int32.ofNat (j + 1)) (axM Z f1)) (q_spv (q_span ψ l r s q p (Int32.ofNat k) t n (j + 1) (q_min x (q_spo ψ l r s q p (Int32.ofNat k) t j)) (q_max y (q_spo ψ l r s q p (Int32.ofNat k) t j)) z') w) := by
      intro z'
      obtain ⟨f2, e2, fr2⟩ := ih (j + 1) fu f1 (q_min x (q_spo ψ l r s q p (Int32.ofNat k) t j)) (q_max y (q_spo ψ l r s q p (Int32.ofNat k) t j)) z' (by omega) (by omega) (h.sc fr1)
      exact ⟨f2, e2, fun x hx => by rw [fr2 x hx, fr1 x hx]⟩
    show CQz Z b f _ (q_spv (q_span ψ l r s q p (Int32.ofNat k) t n (j + 1) (q_min x (q_spo ψ l r s q p (Int32.ofNat k) t j)) (q_max y (q_spo ψ l r s q p (Int32.ofNat k) t j)) (if q_spo ψ l r s q p (Int32.ofNat k) t j = 0 then z + 1 else z)) w)
    by_cases c : q_spo ψ l r s q p (Int32.ofNat k) t j = 0
    · rw [if_pos c, if_pos c]
      exact go _
    · rw [if_neg c, if_neg c]
      exact go _
theorem qm_span_l (hN : 200 < N) {t k u : Nat} (ht : t ≤ 96) (hu : u ≤ 20) (hk : k < 2147483648) (s q p w : Int32) : ∀ (n j fu : Nat) (f : Nat → Nat → Int32) (L x y z : Int32), j + n = u → n < fu → HM Z m f ψ l r → ((L = x ∧ ∃ v, v ≤ 99999 ∧ x = Int32.ofNat v) ∨ (L = -1 ∧ x = 99999 ∧ 0 < n)) → ∃ f', F_X10_span_66 N fu m s (Int32.ofNat u) (Int32.ofNat t) q p (Int32.ofNat k) w L y z (Int32.ofNat j) (axM Z f) = some (q_spv (q_span ψ l r s q p (Int32.ofNat k) t n j x y z) w, axM Z f') ∧ KM m f f' := by
  intro n
  induction n with
  | zero =>
    intro j fu f L x y z hj hfu h hL
    obtain ⟨rfl, -⟩ := hL.resolve_right (fun q => absurd q.2.2 (by omega))
    obtain ⟨fu, rfl⟩ : ∃ q, fu = q + 1 := ⟨fu - 1, by omega⟩
    show ∃ f', F_X10_span_66b N (F_X10_span_66 N fu) m s (Int32.ofNat u) (Int32.ofNat t) q p (Int32.ofNat k) w L y z (Int32.ofNat j) (axM Z f) = _ ∧ _
    unfold F_X10_span_66b q_spv q_span
    rw [if_pos (qi_ge (by omega) (by omega))]
    refine ⟨f, ?_, KM.rf _ _⟩
    by_cases w0 : w = 0
    · rw [if_pos w0, if_pos w0]
    rw [if_neg w0, if_neg w0]
    by_cases w1 : w = 1
    · rw [if_pos w1, if_pos w1]
    rw [if_neg w1, if_neg w1]
  | succ n ih =>
    intro j fu f L x y z hj hfu h hL
    obtain ⟨fu, rfl⟩ : ∃ q, fu = q + 1 := ⟨fu - 1, by omega⟩
    show ∃ f', F_X10_span_66b N (F_X10_span_66 N fu) m s (Int32.ofNat u) (Int32.ofNat t) q p (Int32.ofNat k) w L y z (Int32.ofNat j) (axM Z f) = _ ∧ _
    unfold F_X10_span_66b F_X10_span_113 F_X10_span_144
    rw [if_neg (qi_nge (by omega) (by omega))]
    have h0 := h.1.1
    have s4 := h.s441
    obtain ⟨o, ho, eo⟩ := q_spo_n (l := l) h.2.2.1 h.2.2.2.2.2.2.1 ht hk s q p j
    obtain ⟨f1, v1, e1, c1, g1, k1⟩ := qm_yearsBy hN h ht hk q p (s + Int32.ofNat j)
    have y0 : f1 (m + 441) 0 = q_spo ψ l r s q p (Int32.ofNat k) t j := by rw [rdM_k f1 (m + 441) (by omega), g1]; rfl
    simp only [m_is h0, e1, axBV_s, axB_s, m_gr h0 s4.1, m_ld29_0 s4.2.1, m_less, m_more, y0, qi_s]
    have go : ∀ L' z', L' = q_min x (q_spo ψ l r s q p (Int32.ofNat k) t j) → ∃ f', F_X10_span_66 N fu m s (Int32.ofNat u) (Int32.ofNat t) q p (Int32.ofNat k) w L' (q_max y (q_spo ψ l r s q p (Int32.ofNat k) t j)) z' (Int32.ofNat (j + 1)) (axM Z f1) = some (q_spv (q_span ψ l r s q p (Int32.ofNat k) t n (j + 1) (q_min x (q_spo ψ l r s q p (Int32.ofNat k) t j)) (q_max y (q_spo ψ l r s q p (Int32.ofNat k) t j)) z') w, axM Z f') ∧ KM m f f' := by
      intro L' z' hL'
      have hx : ∃ v, v ≤ 99999 ∧ q_min x (q_spo ψ l r s q p (Int32.ofNat k) t j) = Int32.ofNat v := by
        rw [eo]
        rcases hL with ⟨-, v, hv, ev⟩ | ⟨-, ev, -⟩
        · rw [ev, q_minn (by omega) (by omega)]
          exact ⟨min v o, by omega, rfl⟩
        · rw [ev, show (99999 : Int32) = Int32.ofNat 99999 from rfl, q_minn (by omega) (by omega)]
          exact ⟨min 99999 o, by omega, rfl⟩
      obtain ⟨f2, e2, k2⟩ := ih (j + 1) fu f1 L' (q_min x (q_spo ψ l r s q p (Int32.ofNat k) t j)) (q_max y (q_spo ψ l r s q p (Int32.ofNat k) t j)) z' (by omega) (by omega) (h.km k1) (Or.inl ⟨hL', hx⟩)
      exact ⟨f2, e2, k1.tr k2⟩
    show ∃ f', _ = some (q_spv (q_span ψ l r s q p (Int32.ofNat k) t n (j + 1) (q_min x (q_spo ψ l r s q p (Int32.ofNat k) t j)) (q_max y (q_spo ψ l r s q p (Int32.ofNat k) t j)) (if q_spo ψ l r s q p (Int32.ofNat k) t j = 0 then z + 1 else z)) w, axM Z f') ∧ _
    have hL2 : ∀ L', (if L = -1 then L' = q_spo ψ l r s q p (Int32.ofNat k) t j else L' = q_min L (q_spo ψ l r s q p (Int32.ofNat k) t j)) → L' = q_min x (q_spo ψ l r s q p (Int32.ofNat k) t j) := by
      intro L' hh
      rcases hL with ⟨e, v, hv, ev⟩ | ⟨e, ev, -⟩
      · rw [if_neg (by
          rw [e, ev]
          intro q9
          have h9 := congrArg Int32.toInt q9
          rw [qi_i (by omega)] at h9
          have h8 : (-1 : Int32).toInt = -1 := by decide
          omega), e] at hh
        exact hh
      · rw [if_pos e] at hh
        rw [hh, ev, eo, show (99999 : Int32) = Int32.ofNat 99999 from rfl, q_minn (by omega) (by omega), Nat.min_eq_right (by omega)]
    by_cases cL : L = -1
    · rw [if_pos cL]
      by_cases c : q_spo ψ l r s q p (Int32.ofNat k) t j = 0
      · rw [if_pos c, if_pos c]
        exact go _ _ (hL2 _ (by rw [if_pos cL]))
      · rw [if_neg c, if_neg c, Int32.add_zero]
        exact go _ _ (hL2 _ (by rw [if_pos cL]))
    · rw [if_neg cL]
      by_cases c : q_spo ψ l r s q p (Int32.ofNat k) t j = 0
      · rw [if_pos c, if_pos c]
        exact go _ _ (hL2 _ (by rw [if_neg cL]))
      · rw [if_neg c, if_neg c, Int32.add_zero]
        exact go _ _ (hL2 _ (by rw [if_neg cL]))
def q_spanc (u n q p k w : Int32) : Prop := (1 ≤ u ∧ u ≤ 20) ∧ q_arey n q p k ∧ (0 ≤ w ∧ w ≤ 2)
theorem qc_span (hN : 200 < N) (h : HC Z b fa sf la sl bo sb f ψ l r) (s u n q p k w : Int32) : (q_spanc u n q p k w → CQz Z b f (F_X9_span N b s u n q p k w (axM Z f)) (q_spv (q_span ψ l r s q p k n.toNatClampNeg u.toNatClampNeg 0 99999 0 0) w)) ∧ (¬ q_spanc u n q p k w → CTz Z b f (F_X9_span N b s u n q p k w (axM Z f)) q_iae 15) := by
  have h0 := h.1.1.1
  unfold F_X9_span F_X9_span_38 F_X9_span_39
  rw [m_is h0]
  refine ⟨fun ⟨cu, c, cw⟩ => ?_, fun c => ?_⟩
  · rw [qc_yrs1 h0 c]
    simp only [qc_needT h0, qc_needO h0, q_rg rfl, if_pos cw, if_pos cu]
    obtain ⟨t, ht, rfl⟩ := q_nn (Int32.le_trans (by decide) c.1.1) (show n ≤ Int32.ofNat 96 from c.1.2) (by omega)
    obtain ⟨kk, hk, rfl⟩ := q_nn c.2.2.2.1 (show k ≤ Int32.ofNat 99 from c.2.2.2.2) (by omega)
    obtain ⟨uu, hu, rfl⟩ := q_nn (Int32.le_trans (by decide) cu.1) (show u ≤ Int32.ofNat 20 from cu.2) (by omega)
    rw [qi_tn (by omega), qi_tn (by omega)]
    exact qc_span_l hN ht hu (show kk < 2147483648 by omega) s q p w uu 0 N f 99999 0 0 (by omega) (by omega) h
  · by_cases c1 : q_arey n q p k
    · rw [qc_yrs1 h0 c1]
      simp only [qc_needT h0, qc_needO h0, q_rg rfl]
      refine CTz.mk ?_
      by_cases c2 : 1 ≤ u ∧ u ≤ 20
      · rw [if_pos c2, if_neg (fun z => c ⟨c2, c1, z⟩)]
      · rw [if_neg c2]
    · rw [qc_yrs0 h0 c1]
      exact CTz.mk rfl
theorem qm_span (hN : 200 < N) (h : HM Z m f ψ l r) (s u n q p k w : Int32) : (q_spanc u n q p k w → MQz Z m f (F_X10_span N m s u n q p k w (axM Z f)) (q_spv (q_span ψ l r s q p k n.toNatClampNeg u.toNatClampNeg 0 99999 0 0) w)) ∧ (¬ q_spanc u n q p k w → MTz Z m f (F_X10_span N m s u n q p k w (axM Z f)) 1 1) := by
  have h' := h.t0
  have h0 := h.1.1
  unfold F_X10_span F_X10_span_39 F_X10_span_44
  simp only [m_pi h0, m_is h0, m_in, axB_s]
  refine ⟨fun ⟨cu, c, cw⟩ => ?_, fun c => ?_⟩
  · rw [if_pos cu, if_neg (by decide), m_areY1 c, axB_s, if_neg (by decide), if_pos cw, if_neg (by decide), m_is h0, qm_badF N h0]
    obtain ⟨t, ht, rfl⟩ := q_nn (Int32.le_trans (by decide) c.1.1) (show n ≤ Int32.ofNat 96 from c.1.2) (by omega)
    obtain ⟨kk, hk, rfl⟩ := q_nn c.2.2.2.1 (show k ≤ Int32.ofNat 99 from c.2.2.2.2) (by omega)
    obtain ⟨uu, hu, rfl⟩ := q_nn (Int32.le_trans (by decide) cu.1) (show u ≤ Int32.ofNat 20 from cu.2) (by omega)
    have hu1 : 1 ≤ uu := by
      have := cu.1
      rw [show (1 : Int32) = Int32.ofNat 1 from rfl, qi_le (by omega) (by omega)] at this
      exact this
    rw [qi_tn (by omega), qi_tn (by omega)]
    obtain ⟨f1, e1, k1⟩ := qm_span_l hN ht hu (show kk < 2147483648 by omega) s q p w uu 0 N (ax2 f m 0 0) (-1) 99999 0 0 (by omega) (by omega) h' (Or.inr ⟨rfl, rfl, by omega⟩)
    exact MQz.mkk f1 e1 k1
  · by_cases c2 : 1 ≤ u ∧ u ≤ 20
    · rw [if_pos c2, if_neg (by decide)]
      by_cases c1 : q_arey n q p k
      · rw [m_areY1 c1, axB_s, if_neg (by decide), if_neg (fun z => c ⟨c2, c1, z⟩), if_pos rfl, m_is h0]
        exact qm_badT1 N h.1 _ _
      · rw [m_areY0 c1, axB_s, if_pos rfl, m_is h0]
        exact qm_badT1 N h.1 _ _
    · rw [if_neg c2, if_pos rfl]
      exact qm_badT1 N h.1 _ _
end
