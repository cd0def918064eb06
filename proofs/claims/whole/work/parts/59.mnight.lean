/-! the model: a night -/
section
variable {Z : AxS} {m : Nat} {f : Nat → Nat → Int32}
theorem LMo_of (hm : LMo Z m) : axP Z m 16 = some (m + 12) ∧ axL Z (m + 12) = some (0 + 3, 4) ∧ ∀ j, j < 4 → axP Z (m + 12) j = some (m + 13 + j) ∧ axL Z (m + 13 + j) = some (1, 8) := ⟨hm.2.1 16 12 rfl, hm.2.2.1 12 _ rfl, fun j hj => hm.2.2.2 12 4 8 rfl j hj⟩
theorem qm_noiseOf {c N : Nat} {s w : Int32} {ψ : QF} (hm : LMo Z m) (hG : rdG f m = ψ) (hc : c < (ψ 0 4).toNatClampNeg) (hc8 : c < 8) (hx : ∃ x, x ≤ 9 ∧ ψ 3 c = Int32.ofNat x) (hw : w = 0 ∨ w = 1) : F_X10_noiseOf N m (Int32.ofNat c) s w (axM Z f) = some (q_noise ψ c s w, axM Z f) := by
  obtain ⟨x, hx, e⟩ := hx
  obtain ⟨g1, g2⟩ := q_far_pos hx
  obtain ⟨h1, h2, h3⟩ := LMo_of hm
  obtain ⟨h4, h5⟩ := h3 1 (by omega)
  have e' : f (m + 13 + 1) c = ψ 3 c := rdG_3 hG hc
  have hw' : 1 + w ≠ 0 := by rcases hw with rfl | rfl <;> decide
  unfold F_X10_noiseOf q_noise
  simp only [m_gr hm.1 h1, m_ldr_1 h2 (by omega) (by omega) h4, m_ldn h5 hc8 (by omega), e']
  rw [e, m_ne g2, m_ne hw']
theorem qm_isWaking {a k N : Nat} {s : Int32} {ψ : QF} (hm : LMo Z m) (ha : axL Z a = some (1, 29)) (hG : rdG f m = ψ) (hw : q_fw ψ) (hk : k < (ψ 0 5).toNatClampNeg) (hb : ∃ c, c < (ψ 0 5).toNatClampNeg ∧ rdM f a (13 + k) = Int32.ofNat c) (h5 : rdM f a 5 = 0 ∨ rdM f a 5 = 1) :
    F_X10_isWaking N m a (Int32.ofNat k) s (axM Z f) = some (if q_wk ψ (rdM f a) s k = true then 1 else 0, axM Z f) := by
  obtain ⟨c, hc, e⟩ := hb
  obtain ⟨c1, c2, c3⟩ := q_fw_far hw hc
  obtain ⟨nm, n1, n2, n3⟩ := q_fw_nm hw
  have hk8 : k < 8 := by omega
  obtain ⟨h1, h2, h3⟩ := LMo_of hm
  obtain ⟨h6, h7⟩ := h3 2 (by omega)
  have e' : f a (13 + k) = Int32.ofNat c := by rw [rdM_k f a (by omega)]; exact e
  have e5 : f a 5 = rdM f a 5 := rdM_k f a (by omega)
  have el : f (m + 13 + 2) k = ψ 4 k := rdG_4 hG hk
  have ead : (13 : Int32) + Int32.ofNat k = Int32.ofNat (13 + k) := qi_add 13 k
  unfold F_X10_isWaking
  simp only [ead, m_ldn ha (show 13 + k < 29 by omega) (by omega), m_ld29_5 ha, m_is hm.1, e', e5, qm_noiseOf hm hG c1 c2 c3 h5, axB_s, m_gr hm.1 h1, m_ldr_2 h2 (by omega) (by omega) h6, m_ldn h7 hk8 (by omega), el, m_rz0, m_rz1]
  unfold q_wk
  rw [e, qi_tn (by omega)]
  by_cases q : q_noise ψ c s (rdM f a 5) ≤ ψ 4 k
  · rw [if_pos q, if_neg (fun z => Int32.not_lt.mpr q (of_decide_eq_true z))]
  · rw [if_neg q, if_pos (decide_eq_true (Int32.not_le.mp q))]
theorem qm_earns {a N : Nat} {rate : Int32} (ha : axL Z a = some (1, 29)) : F_X10_earns N a rate (axM Z f) = some (axM Z (ax2 f a 0 (q_min 99999 (f a 0 + f a 0 * rate / 100)))) := by
  unfold F_X10_earns
  simp only [m_ld29_0 ha, m_st29_0 ha, m_ne (show (100 : Int32) ≠ 0 by decide), m_less, axB_s]
/-- what stands behind the waking -/
theorem qm_turn78 {a N B : Nat} {w : Int32} {ψ : QF} (hm : LMo Z m) (ha : axL Z a = some (1, 29)) (hd : m + 16 < a ∨ a < m) (hG : rdG f m = ψ) (hn : ∃ n, n ≤ B ∧ rdM f a 2 = Int32.ofNat n) (hB : B < 2147483647) :
    ∃ f', F_X10_nightEnds_78 N m a w 3 a (axM Z f) = some (axM Z f') ∧ rdM f' a = q_t25 ψ (ψ 0 1) w (rdM f a) ∧ ∀ x, x ≠ a → f' x = f x := by
  obtain ⟨n, hn, en⟩ := hn
  have h0 := hm.1
  have p12 : axP Z m 12 = some (m + 4) := hm.2.1 12 4 rfl
  have p14 : axP Z m 14 = some (m + 6) := hm.2.1 14 6 rfl
  have s4 : axL Z (m + 4) = some (1, 7) := hm.2.2.1 4 _ rfl
  have s6 : axL Z (m + 6) = some (1, 12) := hm.2.2.1 6 _ rfl
  have hmon : q_mon (rdM f a) = Int32.ofNat (n % 12) := q_mon_n en (by omega)
  have htn : (Int32.ofNat (n % 12)).toNatClampNeg = n % 12 := qi_tn (by omega)
  have en' : f a 2 = Int32.ofNat n := by rw [rdM_k f a (by omega)]; exact en
  have eh : f (m + 6) (n % 12) = ψ 1 (n % 12) := rdG_1 hG (by omega)
  have er : f (m + 4) 5 = ψ 0 1 := rdG_0 hG (show 1 < 7 by omega)
  have r0 : f a 0 = rdM f a 0 := rdM_k f a (by omega)
  have r1 : f a 1 = rdM f a 1 := rdM_k f a (by omega)
  have r2 : f a 2 = rdM f a 2 := rdM_k f a (by omega)
  have r6 : f a 6 = rdM f a 6 := rdM_k f a (by omega)
  have r7 : f a 7 = rdM f a 7 := rdM_k f a (by omega)
  unfold F_X10_nightEnds_78 F_X10_nightEnds_111
  simp only [m_st29_3 ha, m_st29_5 ha, m_st29_11 ha, m_st29_4 ha, m_ld29_7 ha, m_ld29_6 ha, m_st29_8 ha, m_st29_7 ha, m_more, axB_s, ax2_a, Nat.reduceEqDiff, ↓reduceIte, r6, r7]
  have key : ∀ (g : Nat → Nat → Int32) (r : QR) (v : Int32), rdM g a = r → (∀ x, x ≠ a → g x = f x) → r 2 = Int32.ofNat n → q_mon r = Int32.ofNat (n % 12) → ∃ f', F_X10_nightEnds_144 N m a v 6 a (axM Z g) = some (axM Z f') ∧ rdM f' a = q_set (q_set (q_set (q_set r 6 v) 1 (q_min 9999 (r 1 + ψ 1 (n % 12)))) 0 (if Int32.ofNat (n % 12) = 11 then q_min 99999 (r 0 + r 0 * (ψ 0 1) / 100) else r 0)) 2 (Int32.ofNat n + 1) ∧ ∀ x, x ≠ a → f' x = f x := by
    intro g r v hr hg h2 hmo
    have g0 : g a 0 = r 0 := by rw [rdM_k g a (by omega), hr]
    have g1 : g a 1 = r 1 := by rw [rdM_k g a (by omega), hr]
    have g2 : g a 2 = Int32.ofNat n := by rw [rdM_k g a (by omega), hr, h2]
    have gh : g (m + 6) (n % 12) = ψ 1 (n % 12) := by rw [hg _ (by omega), eh]
    have gr : g (m + 4) 5 = ψ 0 1 := by rw [hg _ (by omega), er]
    unfold F_X10_nightEnds_144 F_X10_nightEnds_190
    simp only [m_st29_6 ha, m_ld29_1 ha, m_gr h0 p14, m_ld29_2 ha, m_ne (show (12 : Int32) ≠ 0 by decide), ax2_a, Nat.reduceEqDiff, ↓reduceIte, g2, qi_mod (show n < 2147483648 by omega), m_ldn s6 (show n % 12 < 12 by omega) (by omega), ax2_n _ _ _ _ (show m + 6 ≠ a by omega), gh, m_less, axB_s, m_st29_1 ha, m_gr h0 p12, m_ld7_5 s4, ax2_n _ _ _ _ (show m + 4 ≠ a by omega), gr, qm_earns ha, axBV_s, m_st29_2 ha, g0, g1]
    by_cases c : Int32.ofNat (n % 12) = 11
    · rw [if_pos c, if_pos c]
      refine ⟨_, rfl, ?_, fun x hx => by simp only [ax2_n _ _ _ _ hx, hg x hx]⟩
      rw [rdM_w _ _ _ (by omega), rdM_w _ _ _ (by omega), rdM_w _ _ _ (by omega), rdM_w _ _ _ (by omega), hr]
    · rw [if_neg c, if_neg c]
      refine ⟨_, rfl, ?_, fun x hx => by simp only [ax2_n _ _ _ _ hx, hg x hx]⟩
      rw [rdM_w _ _ _ (by omega), rdM_w _ _ _ (by omega), rdM_w _ _ _ (by omega), hr]
      rw [q_set_c (q_set (q_set r 6 v) 1 _) 0 (by rw [q_set_n _ _ (by omega), q_set_n _ _ (by omega)])]
  have fin : ∀ (d v : Int32) (g : Nat → Nat → Int32), g = ax2 (ax2 (ax2 (ax2 (ax2 (ax2 f a 3 w) a 5 0) a 11 0) a 4 0) a 8 d) a 7 (q_max 0 (rdM f a 7 - 1)) → d = (if rdM f a 7 = 1 then rdM f a 6 else 0) → v = (if q_max 0 (rdM f a 7 - 1) = 0 then 0 else rdM f a 6) → ∃ f', F_X10_nightEnds_144 N m a v 6 a (axM Z g) = some (axM Z f') ∧ rdM f' a = q_t25 ψ (ψ 0 1) w (rdM f a) ∧ ∀ x, x ≠ a → f' x = f x := by
    intro d v g hg hd hv
    have hr : rdM g a = q_set (q_set (q_set (q_set (q_set (q_set (rdM f a) 3 w) 5 0) 11 0) 4 0) 8 d) 7 (q_max 0 (rdM f a 7 - 1)) := by
      rw [hg]
      rw [rdM_w _ _ _ (by omega), rdM_w _ _ _ (by omega), rdM_w _ _ _ (by omega), rdM_w _ _ _ (by omega), rdM_w _ _ _ (by omega), rdM_w _ _ _ (by omega)]
    obtain ⟨f', e, g1, g2⟩ := key g _ v hr (fun x hx => by rw [hg]; simp only [ax2_n _ _ _ _ hx]) (by simp [q_set, en]) (by unfold q_mon; simp [q_set]; exact hmon)
    refine ⟨f', e, ?_, g2⟩
    rw [g1]
    refine q_ext ?_ (fun k => ?_)
    · by_cases c : Int32.ofNat (n % 12) = 11
      · simp [q_set, q_t25, hmon, htn, eq_true c, en, hd, hv]
      · simp [q_set, q_t25, hmon, htn, eq_false c, en, hd, hv]
    · simp only [q_set_t _ _ (show 0 < 13 by omega), q_set_t _ _ (show 1 < 13 by omega), q_set_t _ _ (show 2 < 13 by omega), q_set_t _ _ (show 3 < 13 by omega), q_set_t _ _ (show 4 < 13 by omega), q_set_t _ _ (show 5 < 13 by omega), q_set_t _ _ (show 6 < 13 by omega), q_set_t _ _ (show 7 < 13 by omega), q_set_t _ _ (show 8 < 13 by omega), q_set_t _ _ (show 11 < 13 by omega), q_t25]
  by_cases c1 : rdM f a 7 = 1
  · rw [if_pos c1]
    by_cases c2 : q_max 0 (rdM f a 7 - 1) = 0
    · rw [if_pos c2]
      exact fin _ _ _ rfl (by rw [if_pos c1]) (by rw [if_pos c2])
    · rw [if_neg c2]
      exact fin _ _ _ rfl (by rw [if_pos c1]) (by rw [if_neg c2])
  · rw [if_neg c1]
    by_cases c2 : q_max 0 (rdM f a 7 - 1) = 0
    · rw [if_pos c2]
      exact fin _ _ _ rfl (by rw [if_neg c1]) (by rw [if_pos c2])
    · rw [if_neg c2]
      exact fin _ _ _ rfl (by rw [if_neg c1]) (by rw [if_neg c2])
theorem qm_night_l {a N B : Nat} {s : Int32} {ψ : QF} {r : QR} (hm : LMo Z m) (ha : axL Z a = some (1, 29)) (hd : m + 16 < a ∨ a < m) (hw : q_fw ψ) (hn : ∃ n, n ≤ B ∧ r 2 = Int32.ofNat n) (hB : B < 2147483647) (h5 : r 5 = 0 ∨ r 5 = 1) (hb : ∀ k, k < (ψ 0 5).toNatClampNeg → ∃ c, c < (ψ 0 5).toNatClampNeg ∧ r (13 + k) = Int32.ofNat c) :
    ∀ (n j fu : Nat) (f : Nat → Nat → Int32), j + n = (ψ 0 5).toNatClampNeg → n < fu → rdG f m = ψ → rdM f a = q_wakeL ψ s r j → ∃ f', F_X10_nightEnds_8 N fu m a s (Int32.ofNat j) (axM Z f) = some (axM Z f') ∧ rdM f' a = q_turn ψ (ψ 0 1) s (q_wakeL ψ s r (ψ 0 5).toNatClampNeg) ∧ ∀ x, x ≠ a → f' x = f x := by
  obtain ⟨nm, m1, m2, m3⟩ := q_fw_nm hw
  rw [m3] at hb ⊢
  have h0 := hm.1
  have p12 : axP Z m 12 = some (m + 4) := hm.2.1 12 4 rfl
  have s4 : axL Z (m + 4) = some (1, 7) := hm.2.2.1 4 _ rfl
  intro n
  induction n with
  | zero =>
    intro j fu f hj hfu hG hR
    obtain ⟨fu, rfl⟩ : ∃ q, fu = q + 1 := ⟨fu - 1, by omega⟩
    show ∃ f', F_X10_nightEnds_8b N (F_X10_nightEnds_8 N fu) m a s (Int32.ofNat j) (axM Z f) = _ ∧ _
    unfold F_X10_nightEnds_8b
    have e5 : f (m + 4) 2 = Int32.ofNat nm := (rdG_0 hG (show 5 < 7 by omega)).trans m1
    have hjm : j = nm := by omega
    subst hjm
    simp only [m_gr h0 p12, m_ld7_2 s4, e5, m_ld29_9 ha, m_st29_9 ha, m_ld29_3 ha, ax2_a, Nat.reduceEqDiff, ↓reduceIte]
    rw [if_pos (Int32.le_refl _)]
    have R9 : rdM (ax2 f a 9 (f a 9 + s)) a = q_set (q_wakeL ψ s r j) 9 (q_wakeL ψ s r j 9 + s) := by
      rw [rdM_w _ _ _ (by omega), rdM_k f a (show 9 < 29 by omega), hR]
    have key : ∀ w : Int32, ∃ f', F_X10_nightEnds_78 N m a w 3 a (axM Z (ax2 f a 9 (f a 9 + s))) = some (axM Z f') ∧ rdM f' a = q_t25 ψ (ψ 0 1) w (q_set (q_wakeL ψ s r j) 9 (q_wakeL ψ s r j 9 + s)) ∧ ∀ x, x ≠ a → f' x = f x := by
      intro w
      obtain ⟨f', e, g1, g2⟩ := qm_turn78 (N := N) (f := ax2 f a 9 (f a 9 + s)) (w := w) (B := B) (ψ := ψ) hm ha hd (by rw [← hG]; exact rdG_e (fun x p q => ax2_n _ _ _ _ (by omega))) (by rw [R9, q_set_n _ _ (by omega), q_wakeL_k ψ s r (by omega) (by omega)]; exact hn) hB
      exact ⟨f', e, by rw [g1, R9], fun x hx => by rw [g2 x hx, ax2_n _ _ _ _ hx]⟩
    unfold q_turn
    have e3 : f a 3 = q_wakeL ψ s r j 3 := by rw [rdM_k f a (by omega), hR]
    by_cases c : s = 0
    · rw [if_pos c, if_pos c, e3]
      exact key _
    · rw [if_neg c, if_neg c]
      exact key _
  | succ n ih =>
    intro j fu f hj hfu hG hR
    obtain ⟨fu, rfl⟩ : ∃ q, fu = q + 1 := ⟨fu - 1, by omega⟩
    show ∃ f', F_X10_nightEnds_8b N (F_X10_nightEnds_8 N fu) m a s (Int32.ofNat j) (axM Z f) = _ ∧ _
    unfold F_X10_nightEnds_8b F_X10_nightEnds_49
    have e5 : f (m + 4) 2 = Int32.ofNat nm := (rdG_0 hG (show 5 < 7 by omega)).trans m1
    have hj8 : j < 8 := by omega
    have hwk := qm_isWaking (f := f) (N := N) (s := s) (k := j) hm ha hG hw (by omega) (by rw [hR, q_wakeL_k ψ s r (by omega) (by omega), m3]; exact hb j (by omega)) (by rw [hR, q_wakeL_k ψ s r (by omega) (by omega)]; exact h5)
    rw [hR, q_wakeL_wk ψ s r j j hj8] at hwk
    have ead : (21 : Int32) + Int32.ofNat j = Int32.ofNat (21 + j) := qi_add 21 j
    simp only [m_gr h0 p12, m_ld7_2 s4, e5, m_is h0, hwk, axB_s, ead]
    rw [if_neg (qi_nge (by omega) (by omega))]
    by_cases c : q_wk ψ r s j = true
    · rw [if_pos c, if_neg (by decide)]
      simp only [m_ldn ha (show 21 + j < 29 by omega) (by omega), m_stn ha (show 21 + j < 29 by omega) (by omega), m_ld29_10 ha, m_st29_10 ha, qi_s]
      have e10 : ax2 f a (21 + j) (f a (21 + j) + 1) a 10 = f a 10 := ax2_j _ _ _ _ _ (by omega)
      obtain ⟨f', e, g1, g2⟩ := ih (j + 1) fu (ax2 (ax2 f a (21 + j) (f a (21 + j) + 1)) a 10 (ax2 f a (21 + j) (f a (21 + j) + 1) a 10 + 1)) (by omega) (by omega) (by
        rw [← hG]
        exact rdG_e (fun x h1 h2 => by rw [ax2_n _ _ _ _ (by omega), ax2_n _ _ _ _ (by omega)])) (by
        rw [rdM_w _ _ _ (by omega), rdM_w _ _ _ (by omega), e10, rdM_k f a (show 21 + j < 29 by omega), rdM_k f a (show 10 < 29 by omega), hR]
        show _ = (if _ then _ else _ : QR)
        rw [if_pos c])
      exact ⟨f', e, g1, fun x h1 => by rw [g2 x h1, ax2_n _ _ _ _ h1, ax2_n _ _ _ _ h1]⟩
    · rw [if_neg c, if_pos rfl, qi_s]
      obtain ⟨f', e, g1, g2⟩ := ih (j + 1) fu f (by omega) (by omega) hG (by
        rw [hR]
        show _ = (if _ then _ else _ : QR)
        rw [if_neg c])
      exact ⟨f', e, g1, g2⟩
theorem qm_nightEnds {a N B : Nat} {ψ : QF} {l : QL} (hN : 200 < N) (hm : LMo Z m) (ha : axL Z a = some (1, 29)) (hd : (m + 16 < a ∧ a ≠ m + 357 ∧ a ≠ m + 358) ∨ a < m) (hG : rdG f m = ψ) (hw : q_fw ψ) (hl : mlLaw f m l) (hlw : l = [] ∨ q_wf l 0) (hB : B < 2147483647) (hok : q_ok ψ B (rdM f a)) :
    ∃ f', F_X10_nightEnds N m a (axM Z f) = some (axM Z f') ∧ rdM f' a = q_night ψ l (rdM f a 12) (rdM f a) ∧ ∀ x, x ≠ a → x ≠ m + 357 → x ≠ m + 358 → f' x = f x := by
  obtain ⟨o1, o2, o3, o4, -⟩ := hok
  obtain ⟨nm, m1, m2, m3⟩ := q_fw_nm hw
  unfold F_X10_nightEnds
  obtain ⟨f1, e, fr⟩ := qm_strokesOf hN hm ha (by omega) hl hlw
  rw [m_is hm.1, e, axB_s]
  have R1 : rdM f1 a = rdM f a := rdM_e (fun k _ => by rw [fr a (by omega) (by omega)])
  obtain ⟨f', e2, g1, g2⟩ := qm_night_l (N := N) (s := q_str l (rdM f a) (rdM f a 12)) (r := rdM f a) (B := B) hm ha (by omega) hw o1 hB o2 o4 (ψ 0 5).toNatClampNeg 0 N f1 (by omega) (by omega) (by
    rw [← hG]
    exact rdG_e (fun x h1 h2 => fr x (by omega) (by omega))) (by rw [R1]; rfl)
  exact ⟨f', e2, g1, fun x h1 h2 h3 => by rw [g2 x h1, fr x h2 h3]⟩
end
