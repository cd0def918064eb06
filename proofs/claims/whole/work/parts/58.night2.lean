/-! a night, whole -/
theorem q_ext {r s : QR} (h : r 0 = s 0 ∧ r 1 = s 1 ∧ r 2 = s 2 ∧ r 3 = s 3 ∧ r 4 = s 4 ∧ r 5 = s 5 ∧ r 6 = s 6 ∧ r 7 = s 7 ∧ r 8 = s 8 ∧ r 9 = s 9 ∧ r 10 = s 10 ∧ r 11 = s 11 ∧ r 12 = s 12) (ht : ∀ k, r (k + 13) = s (k + 13)) : r = s := by
  obtain ⟨e0, e1, e2, e3, e4, e5, e6, e7, e8, e9, e10, e11, e12⟩ := h
  funext k
  rcases q_pl k with rfl | rfl | rfl | rfl | rfl | rfl | rfl | rfl | rfl | rfl | rfl | rfl | rfl | h
  · exact e0
  · exact e1
  · exact e2
  · exact e3
  · exact e4
  · exact e5
  · exact e6
  · exact e7
  · exact e8
  · exact e9
  · exact e10
  · exact e11
  · exact e12
  · obtain ⟨j, rfl⟩ : ∃ j, k = j + 13 := ⟨k - 13, by omega⟩
    exact ht j
theorem q_set_t (r : QR) {k : Nat} (v : Int32) (hk : k < 13) (j : Nat) : q_set r k v (j + 13) = r (j + 13) := q_set_n _ _ (by omega)
section
variable {Z : AxS} {f : Nat → Nat → Int32} {a : Nat}
theorem qc_t25 {fa N B : Nat} {ψ : QF} {rate w : Int32} (ha : LSt Z a) (hfa : LFa Z fa) (hd : a ≠ fa + 1) (hF : ∀ k, k < 12 → f (fa + 1) k = ψ 1 k) (hn : ∃ n, n ≤ B ∧ rdSt f a 2 = Int32.ofNat n) (hB : B < 2147483647) (hr : q_rec (rdSt f a)) :
    ∃ f', F_X5_turn_25 N a fa rate w a (axM Z f) = some (axM Z f') ∧ rdSt f' a = q_t25 ψ rate w (rdSt f a) ∧ ∀ x, x ≠ a → f' x = f x := by
  have h1 := ha.1
  obtain ⟨n, hn, en⟩ := hn
  unfold F_X5_turn_25
  simp only [m_pi h1, m_is h1]
  have R1 : rdSt (ax2 (ax2 (ax2 (ax2 f a 3 w) a 5 0) a 9 0) a 4 0) a = q_set (q_set (q_set (q_set (rdSt f a) 3 w) 5 0) 11 0) 4 0 := by rw [rdSt_w4, rdSt_w9, rdSt_w5, rdSt_w3]
  obtain ⟨f2, e, R2, fr⟩ := qc_takeDown (f := ax2 (ax2 (ax2 (ax2 f a 3 w) a 5 0) a 9 0) a 4 0) N ha (by rw [R1]; exact hr)
  rw [R1] at R2
  have n2 : rdSt f2 a 2 = Int32.ofNat n := by
    rw [R2]
    exact en
  have n2' : f2 a 2 = Int32.ofNat n := n2
  have hh : ∀ k, k < 12 → f2 (fa + 1) k = ψ 1 k := fun k hk => by
    rw [fr _ (Ne.symm hd)]
    simp only [ax2_n _ _ _ _ (Ne.symm hd)]
    exact hF k hk
  simp only [e, axBV_s, axB_s, m_gi h1, m_pi h1, m_ne (show (12 : Int32) ≠ 0 by decide), m_ne (show (100 : Int32) ≠ 0 by decide), n2', qi_mod (show n < 2147483648 by omega), m_gr hfa.1 hfa.2.1.1, m_atn N hfa.2.1.2 (Nat.mod_lt n (show 12 > 0 by omega)) (by omega), hh _ (Nat.mod_lt n (show 12 > 0 by omega)), m_min, ax2_a, Nat.reduceEqDiff, ↓reduceIte]
  have hm : q_mon (rdSt f a) = Int32.ofNat (n % 12) := q_mon_n en (by omega)
  have htn : (Int32.ofNat (n % 12)).toNatClampNeg = n % 12 := qi_tn (by omega)
  have g0 : f2 a 0 = rdSt f a 0 := by rw [show f2 a 0 = rdSt f2 a 0 from rfl, R2]; rfl
  have g1 : f2 a 1 = rdSt f a 1 := by rw [show f2 a 1 = rdSt f2 a 1 from rfl, R2]; rfl
  by_cases c : Int32.ofNat (n % 12) = 11
  · rw [if_pos c]
    refine ⟨_, rfl, ?_, fun x hx => by simp only [ax2_n _ _ _ _ hx, fr x hx]⟩
    rw [rdSt_w2, rdSt_w0, rdSt_w1, R2, g0, g1]
    refine q_ext ?_ (fun k => ?_)
    · simp [q_set, q_t25, hm, htn, eq_true c, en]
    · simp only [q_set_t _ _ (show 0 < 13 by omega), q_set_t _ _ (show 1 < 13 by omega), q_set_t _ _ (show 2 < 13 by omega), q_set_t _ _ (show 3 < 13 by omega), q_set_t _ _ (show 4 < 13 by omega), q_set_t _ _ (show 5 < 13 by omega), q_set_t _ _ (show 6 < 13 by omega), q_set_t _ _ (show 7 < 13 by omega), q_set_t _ _ (show 8 < 13 by omega), q_set_t _ _ (show 11 < 13 by omega), q_t25]
  · rw [if_neg c]
    refine ⟨_, rfl, ?_, fun x hx => by simp only [ax2_n _ _ _ _ hx, fr x hx]⟩
    rw [rdSt_w2, rdSt_w1, R2, g1]
    refine q_ext ?_ (fun k => ?_)
    · simp [q_set, q_t25, hm, htn, eq_false c, en]
    · simp only [q_set_t _ _ (show 1 < 13 by omega), q_set_t _ _ (show 2 < 13 by omega), q_set_t _ _ (show 3 < 13 by omega), q_set_t _ _ (show 4 < 13 by omega), q_set_t _ _ (show 5 < 13 by omega), q_set_t _ _ (show 6 < 13 by omega), q_set_t _ _ (show 7 < 13 by omega), q_set_t _ _ (show 8 < 13 by omega), q_set_t _ _ (show 11 < 13 by omega), q_t25]
theorem qc_turn {fa N B : Nat} {ψ : QF} {rate s : Int32} (ha : LSt Z a) (hfa : LFa Z fa) (hd : a ≠ fa + 1) (hF : ∀ k, k < 12 → f (fa + 1) k = ψ 1 k) (hn : ∃ n, n ≤ B ∧ rdSt f a 2 = Int32.ofNat n) (hB : B < 2147483647) (hr : q_rec (rdSt f a)) :
    ∃ f', F_X5_turn N a s fa rate (axM Z f) = some (axM Z f') ∧ rdSt f' a = q_turn ψ rate s (rdSt f a) ∧ ∀ x, x ≠ a → f' x = f x := by
  have h1 := ha.1
  unfold F_X5_turn q_turn
  simp only [m_gi h1, m_pi h1, ax2_a, Nat.reduceEqDiff, ↓reduceIte]
  have key : ∀ w : Int32, ∃ f', F_X5_turn_25 N a fa rate w a (axM Z (ax2 f a 10 (f a 10 + s))) = some (axM Z f') ∧ rdSt f' a = q_t25 ψ rate w (q_set (rdSt f a) 9 (rdSt f a 9 + s)) ∧ ∀ x, x ≠ a → f' x = f x := by
    intro w
    have R : rdSt (ax2 f a 10 (f a 10 + s)) a = q_set (rdSt f a) 9 (rdSt f a 9 + s) := rdSt_w10 _ _ _
    obtain ⟨f', e, g1, g2⟩ := qc_t25 (f := ax2 f a 10 (f a 10 + s)) (N := N) (rate := rate) (w := w) (ψ := ψ) ha hfa hd (fun k hk => by rw [ax2_n _ _ _ _ (Ne.symm hd)]; exact hF k hk) (by rw [R]; exact hn) hB (by rw [R]; exact hr)
    exact ⟨f', e, by rw [g1, R], fun x hx => by rw [g2 x hx, ax2_n _ _ _ _ hx]⟩
  by_cases c : s = 0
  · rw [if_pos c, if_pos c]
    exact key _
  · rw [if_neg c, if_neg c]
    exact key _
theorem q_wakeL_k (ψ : QF) (s : Int32) (r : QR) {k : Nat} (h10 : k ≠ 10) (h21 : k < 21) : ∀ n, q_wakeL ψ s r n k = r k
  | 0 => rfl
  | n + 1 => by
    show (if _ then _ else _ : QR) k = _
    split
    · rw [q_set_n _ _ h10, q_set_n _ _ (by omega), q_wakeL_k ψ s r h10 h21 n]
    · exact q_wakeL_k ψ s r h10 h21 n
theorem q_wakeL_wk (ψ : QF) (s : Int32) (r : QR) (n m : Nat) (hm : m < 8) : q_wk ψ (q_wakeL ψ s r n) s m = q_wk ψ r s m := by
  unfold q_wk
  rw [q_wakeL_k ψ s r (by omega) (by omega) n, q_wakeL_k ψ s r (by omega) (by omega) n]
/-- the class: those who wake, from the m-th on; then the night is over -/
theorem qc_pass_l {b fa sf la sl bo sb N B : Nat} {s : Int32} {ψ : QF} {r : QR} (hC : LCl Z b fa sf la sl bo sb) (ha : LSt Z a) (hd : a + 2 < fa ∨ fa + 5 < a) (hw : q_fw ψ) (hn : ∃ n, n ≤ B ∧ r 2 = Int32.ofNat n) (hB : B < 2147483647) (hr : q_rec r) (h5 : r 5 = 0 ∨ r 5 = 1) (hb : ∀ m, m < (ψ 0 5).toNatClampNeg → ∃ c, c < (ψ 0 5).toNatClampNeg ∧ r (13 + m) = Int32.ofNat c) :
    ∀ (n j fu : Nat) (f : Nat → Nat → Int32), j + n = (ψ 0 5).toNatClampNeg → n < fu → rdF f fa = ψ → rdSt f a = q_wakeL ψ s r j → ∃ f', F_X9_passNight_10 N fu b a s (Int32.ofNat j) (axM Z f) = some (s, axM Z f') ∧ rdSt f' a = q_turn ψ (ψ 0 1) s (q_wakeL ψ s r (ψ 0 5).toNatClampNeg) ∧ ∀ x, x ≠ a → x ≠ a + 2 → f' x = f x := by
  obtain ⟨nm, m1, m2, m3⟩ := q_fw_nm hw
  rw [m3] at hb ⊢
  have hfa := hC.2.1.1
  intro n
  induction n with
  | zero =>
    intro j fu f hj hfu hF hR
    obtain ⟨fu, rfl⟩ : ∃ q, fu = q + 1 := ⟨fu - 1, by omega⟩
    show ∃ f', F_X9_passNight_10b N (F_X9_passNight_10 N fu) b a s (Int32.ofNat j) (axM Z f) = _ ∧ _
    unfold F_X9_passNight_10b
    have e5 : f fa 5 = Int32.ofNat nm := by rw [rdF_0 hF (by omega), m1]
    have e1 : f fa 1 = ψ 0 1 := rdF_0 hF (by omega)
    simp only [m_gr hC.1.1 hC.1.2.1, m_gi hfa.1, e5, e1, m_is ha.1]
    rw [if_pos (qi_ge (by omega) (by omega))]
    have hjm : j = nm := by omega
    subst hjm
    obtain ⟨f', e, g1, g2⟩ := qc_turn (N := N) (f := f) (rate := ψ 0 1) (s := s) (B := B) (ψ := ψ) ha hfa (by omega) (fun k hk => rdF_1 hF hk) (by rw [hR, q_wakeL_k ψ s r (by omega) (by omega)]; exact hn) hB (by unfold q_rec; rw [hR, q_wakeL_k ψ s r (by omega) (by omega), q_wakeL_k ψ s r (by omega) (by omega)]; exact hr)
    rw [e, axBV_s]
    exact ⟨f', rfl, by rw [g1, hR], fun x hx _ => g2 x hx⟩
  | succ n ih =>
    intro j fu f hj hfu hF hR
    obtain ⟨fu, rfl⟩ : ∃ q, fu = q + 1 := ⟨fu - 1, by omega⟩
    show ∃ f', F_X9_passNight_10b N (F_X9_passNight_10 N fu) b a s (Int32.ofNat j) (axM Z f) = _ ∧ _
    unfold F_X9_passNight_10b F_X9_passNight_63
    have e5 : f fa 5 = Int32.ofNat nm := by rw [rdF_0 hF (by omega), m1]
    have hj8 : j < 8 := by omega
    have hwk := qc_wakes (f := f) (N := N) (s := s) (m := j) hC ha hF hw (by omega) (by rw [hR, q_wakeL_k ψ s r (by omega) (by omega), m3]; exact hb j (by omega)) (by rw [hR, q_wakeL_k ψ s r (by omega) (by omega)]; exact h5)
    rw [hR, q_wakeL_wk ψ s r j j hj8] at hwk
    simp only [m_gr hC.1.1 hC.1.2.1, m_gi hfa.1, e5, m_is hC.1.1, hwk, axB_s]
    rw [if_neg (qi_nge (by omega) (by omega))]
    by_cases c : q_wk ψ r s j = true
    · rw [if_pos c, if_neg (by decide)]
      simp only [m_gi ha.1, m_pi ha.1, m_gr ha.1 ha.2.2.1, m_atn N ha.2.2.2.2 hj8 (by omega), m_putn N ha.2.2.2.2 hj8 (by omega), axB_s, axBV_s, qi_s, ax2_n _ _ _ _ (show a + 2 ≠ a by omega)]
      obtain ⟨f', e, g1, g2⟩ := ih (j + 1) fu (ax2 (ax2 f a 11 (f a 11 + 1)) (a + 2) j (f (a + 2) j + 1)) (by omega) (by omega) (by
        rw [← hF]
        exact rdF_e (fun x h1 h2 => by rw [ax2_n _ _ _ _ (by omega), ax2_n _ _ _ _ (by omega)])) (by
        rw [rdSt_ww _ _ _ hj8, rdSt_w11, show f a 11 = rdSt f a 10 from rfl, ← rdSt_w f a hj8, hR]
        show _ = (if _ then _ else _ : QR)
        rw [if_pos c]
        funext k
        unfold q_set
        by_cases k1 : k = 21 + j
        · rw [if_pos k1, if_neg (by omega), if_pos k1]
        · rw [if_neg k1]
          by_cases k2 : k = 10
          · rw [if_pos k2, if_pos k2]
          · rw [if_neg k2, if_neg k2, if_neg k1])
      exact ⟨f', e, g1, fun x h1 h2 => by rw [g2 x h1 h2, ax2_n _ _ _ _ h2, ax2_n _ _ _ _ h1]⟩
    · rw [if_neg c, if_pos rfl, qi_s]
      obtain ⟨f', e, g1, g2⟩ := ih (j + 1) fu f (by omega) (by omega) hF (by
        rw [hR]
        show _ = (if _ then _ else _ : QR)
        rw [if_neg c])
      exact ⟨f', e, g1, g2⟩
theorem qc_passNight {b fa sf la sl bo sb N B : Nat} {ψ : QF} {l : QL} {f : Nat → Nat → Int32} (hN : 200 < N) (hC : LCl Z b fa sf la sl bo sb) (ha : LSt Z a) (hd : b + 27 < a) (hF : rdF f fa = ψ) (hw : q_fw ψ) (hl : clLaw f la l) (hlw : l = [] ∨ q_wf l 0) (hB : B < 2147483647) (hok : q_ok ψ B (rdSt f a)) (st : Int32) :
    ∃ f', F_X9_passNight N b a st (axM Z f) = some (q_str l (rdSt f a) st, axM Z f') ∧ rdSt f' a = q_night ψ l st (rdSt f a) ∧ ∀ x, x ≠ a → x ≠ a + 2 → x ≠ la + 2 → x ≠ la + 3 → f' x = f x := by
  obtain ⟨o1, o2, o3, o4, -⟩ := hok
  obtain ⟨nm, m1, m2, m3⟩ := q_fw_nm hw
  have dla := hC.2.2.2.1
  have dfa := hC.2.2.1
  unfold F_X9_passNight
  obtain ⟨f1, e, fr⟩ := qc_strokesOf hN hC ha (by omega) hl hlw st
  rw [m_is hC.1.1, e, axB_s]
  have R1 : rdSt f1 a = rdSt f a := rdSt_e (fr _ (by omega) (by omega)) (fr _ (by omega) (by omega)) (fr _ (by omega) (by omega))
  obtain ⟨f', e2, g1, g2⟩ := qc_pass_l (N := N) (s := q_str l (rdSt f a) st) (r := rdSt f a) (B := B) hC ha (by omega) hw o1 hB o3 o2 o4 (ψ 0 5).toNatClampNeg 0 N f1 (by omega) (by omega) (by
    rw [← hF]
    exact rdF_e (fun x h1 h2 => fr x (by omega) (by omega))) (by rw [R1]; rfl)
  exact ⟨f', e2, g1, fun x h1 h2 h3 h4 => by rw [g2 x h1 h2, fr x h3 h4]⟩
end
