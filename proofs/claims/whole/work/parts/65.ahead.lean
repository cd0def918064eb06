/-! ahead, loudest, hush, grows -/
def q_ah (ψ : QF) (l : QL) : Nat → QR → Int32 → QR × Int32
  | 0, ρ, q => (ρ, q)
  | n + 1, ρ, q => q_ah ψ l n (q_night ψ l 0 ρ) (if q_str l ρ 0 = 0 then q + 1 else q)
def q_ahv (r : QR) (x : QR × Int32) (w : Int32) : Int32 := if w = 0 then x.1 9 - r 9 else if w = 1 then x.1 0 else if w = 2 then x.1 10 - r 10 else x.2
section
variable {Z : AxS} {b m fa sf la sl bo sb N : Nat} {ψ : QF} {l : QL} {r : QR}
theorem qc_ahead_l (hN : 200 < N) {t : Nat} (ht : t ≤ 60) (w : Int32) : ∀ (n j fu : Nat) (f : Nat → Nat → Int32) (ρ : QR) (q : Int32), j + n = t → n < fu → HC Z b fa sf la sl bo sb f ψ l r → rdSt f (b + 34) = ρ → q_ok ψ (999 + j) ρ → CQz Z b f (F_X9_ahead_44 N fu b (Int32.ofNat t) w q (Int32.ofNat j) (axM Z f)) (q_ahv r (q_ah ψ l n ρ q) w) := by
  intro n
  induction n with
  | zero =>
    intro j fu f ρ q hj hfu h hρ hok
    obtain ⟨fu, rfl⟩ : ∃ q, fu = q + 1 := ⟨fu - 1, by omega⟩
    show CQz Z b f (F_X9_ahead_44b N (F_X9_ahead_44 N fu) b (Int32.ofNat t) w q (Int32.ofNat j) (axM Z f)) _
    unfold F_X9_ahead_44b
    obtain ⟨hC, -, -, -, -, hR, -⟩ := h
    have h0 := hC.1.1
    have p8 := hC.2.2.2.2.2.2.2.1
    have p9 := hC.2.2.2.2.2.2.2.2.1
    rw [if_pos (qi_ge (by omega) (by omega))]
    simp only [m_gr h0 p8.1, m_gr h0 p9.1, m_gi p8.2.1, m_gi p9.2.1]
    refine CQz.mk0 ?_
    subst hρ
    subst hR
    unfold q_ahv q_ah
    by_cases c0 : w = 0
    · rw [if_pos c0, if_pos c0]
      rfl
    rw [if_neg c0, if_neg c0]
    by_cases c1 : w = 1
    · rw [if_pos c1, if_pos c1]
      rfl
    rw [if_neg c1, if_neg c1]
    by_cases c2 : w = 2
    · rw [if_pos c2, if_pos c2]
      rfl
    rw [if_neg c2, if_neg c2]
  | succ n ih =>
    intro j fu f ρ q hj hfu h hρ hok
    obtain ⟨fu, rfl⟩ : ∃ q, fu = q + 1 := ⟨fu - 1, by omega⟩
    show CQz Z b f (F_X9_ahead_44b N (F_X9_ahead_44 N fu) b (Int32.ofNat t) w q (Int32.ofNat j) (axM Z f)) _
    unfold F_X9_ahead_44b F_X9_ahead_65
    have h0 := h.1.1.1
    have p9 := h.1.2.2.2.2.2.2.2.2.1
    rw [if_neg (qi_nge (by omega) (by omega))]
    obtain ⟨f1, e1, g1, fr1⟩ := qc_pass_t hN h hρ (show 999 + j < 2147483000 by omega) hok 0
    simp only [m_gr h0 p9.1, m_is h0, e1, axB_s, qi_s]
    have hk := q_ok_night l 0 h.2.2.1 (show 999 + j < 2147483000 by omega) hok
    have go : ∀ q', CQz Z b f (F_X9_ahead_44 N fu b (Int32.ofNat t) w q' (Int32.ofNat (j + 1)) (axM Z f1)) (q_ahv r (q_ah ψ l n (q_night ψ l 0 ρ) q') w) := by
      intro q'
      obtain ⟨f2, e2, fr2⟩ := ih (j + 1) fu f1 _ q' (by omega) (by omega) (h.sc fr1) g1 hk
      exact ⟨f2, e2, fun x hx => by rw [fr2 x hx, fr1 x hx]⟩
    show CQz Z b f _ (q_ahv r (q_ah ψ l n (q_night ψ l 0 ρ) (if q_str l ρ 0 = 0 then q + 1 else q)) w)
    by_cases c : q_str l ρ 0 = 0
    · rw [if_pos c, if_pos c]
      exact go _
    · rw [if_neg c, if_neg c]
      exact go _
theorem qc_ahead {f : Nat → Nat → Int32} (hN : 200 < N) (h : HC Z b fa sf la sl bo sb f ψ l r) (x w : Int32) : (∀ t, t ≤ 60 → x = Int32.ofNat t → (0 ≤ w ∧ w ≤ 3) → CQz Z b f (F_X9_ahead N b x w (axM Z f)) (q_ahv r (q_ah ψ l t r 0) w)) ∧ (¬ ((0 ≤ x ∧ x ≤ 60) ∧ (0 ≤ w ∧ w ≤ 3)) → CTz Z b f (F_X9_ahead N b x w (axM Z f)) q_iae 15) := by
  have h0 := h.1.1.1
  have p8 := h.1.2.2.2.2.2.2.2.1
  have p9 := h.1.2.2.2.2.2.2.2.2.1
  unfold F_X9_ahead F_X9_ahead_24 F_X9_ahead_25
  simp only [m_is h0, qc_need0 N h0, qc_need1, q_rg rfl, m_gr h0 p8.1, m_gr h0 p9.1, m_is p9.2.1]
  refine ⟨fun t ht ex c => ?_, fun c => ?_⟩
  · subst ex
    have z1 : 0 ≤ Int32.ofNat t ∧ Int32.ofNat t ≤ 60 := ⟨qi_ge (i := 0) (by omega) (by omega), qi_ge (j := 60) (by omega) (by omega)⟩
    rw [if_pos z1, if_pos c]
    obtain ⟨f1, e1, g1, fr1⟩ := qc_take_t hN h
    rw [e1, axBV_s]
    obtain ⟨f2, e2, fr2⟩ := qc_ahead_l hN ht w t 0 N f1 r 0 (by omega) (by omega) (h.sc fr1) g1 (q_ok_mono (by omega) h.2.2.2.2.2.2)
    exact ⟨f2, e2, fun x hx => by rw [fr2 x hx, fr1 x hx]⟩
  · by_cases c1 : 0 ≤ x ∧ x ≤ 60
    · rw [if_pos c1, if_neg (fun q => c ⟨c1, q⟩)]
      exact CTz.mk rfl
    · rw [if_neg c1]
      exact CTz.mk rfl
theorem qm_ahead_l (hN : 200 < N) {t : Nat} (ht : t ≤ 60) (w : Int32) : ∀ (n j fu : Nat) (f : Nat → Nat → Int32) (ρ : QR) (q : Int32), j + n = t → n < fu → HM Z m f ψ l r → rdM f (m + 441) = ρ → ρ 12 = 0 → q_ok ψ (999 + j) ρ → ∃ f', F_X10_ahead_56 N fu m (Int32.ofNat t) w q (Int32.ofNat j) (axM Z f) = some (q_ahv r (q_ah ψ l n ρ q) w, axM Z f') ∧ ∀ x, ¬ scM m x → f' x = f x := by
  intro n
  induction n with
  | zero =>
    intro j fu f ρ q hj hfu h hρ h12 hok
    obtain ⟨fu, rfl⟩ : ∃ q, fu = q + 1 := ⟨fu - 1, by omega⟩
    show ∃ f', F_X10_ahead_56b N (F_X10_ahead_56 N fu) m (Int32.ofNat t) w q (Int32.ofNat j) (axM Z f) = _ ∧ _
    unfold F_X10_ahead_56b
    have h0 := h.1.1
    obtain ⟨p28, s441, p27, s440⟩ := h.s441
    have hR := h.2.2.2.2.2.1
    rw [if_pos (qi_ge (by omega) (by omega))]
    simp only [m_gr h0 p27, m_gr h0 p28, m_ld29_9 s441, m_ld29_9 s440, m_ld29_0 s441, m_ld29_10 s441, m_ld29_10 s440, rdM_k f (m + 440) (show 9 < 29 by omega), rdM_k f (m + 440) (show 10 < 29 by omega), rdM_k f (m + 441) (show 9 < 29 by omega), rdM_k f (m + 441) (show 10 < 29 by omega), rdM_k f (m + 441) (show 0 < 29 by omega), hR, hρ]
    refine ⟨f, ?_, fun x _ => rfl⟩
    unfold q_ahv q_ah
    by_cases c0 : w = 0
    · rw [if_pos c0, if_pos c0]
    rw [if_neg c0, if_neg c0]
    by_cases c1 : w = 1
    · rw [if_pos c1, if_pos c1]
    rw [if_neg c1, if_neg c1]
    by_cases c2 : w = 2
    · rw [if_pos c2, if_pos c2]
    rw [if_neg c2, if_neg c2]
  | succ n ih =>
    intro j fu f ρ q hj hfu h hρ h12 hok
    obtain ⟨fu, rfl⟩ : ∃ q, fu = q + 1 := ⟨fu - 1, by omega⟩
    show ∃ f', F_X10_ahead_56b N (F_X10_ahead_56 N fu) m (Int32.ofNat t) w q (Int32.ofNat j) (axM Z f) = _ ∧ _
    unfold F_X10_ahead_56b F_X10_ahead_79
    have h0 := h.1.1
    obtain ⟨p28, s441, p27, s440⟩ := h.s441
    rw [if_neg (qi_nge (by omega) (by omega))]
    obtain ⟨f1, e1, g1, fr1⟩ := qm_str_t hN h hρ
    rw [h12] at e1
    obtain ⟨f2, e2, g2, fr2⟩ := qm_night_t hN (h.sc fr1) g1 (show 999 + j < 2147483000 by omega) hok
    rw [h12] at g2
    simp only [m_gr h0 p28, m_is h0, e1, axB_s, e2, axBV_s, qi_s]
    have hk := q_ok_night l 0 h.2.2.1 (show 999 + j < 2147483000 by omega) hok
    have fr : ∀ x, ¬ scM m x → f2 x = f x := fun x hx => by rw [fr2 x hx, fr1 x hx]
    have go : ∀ q', ∃ f', F_X10_ahead_56 N fu m (Int32.ofNat t) w q' (Int32.ofNat (j + 1)) (axM Z f2) = some (q_ahv r (q_ah ψ l n (q_night ψ l 0 ρ) q') w, axM Z f') ∧ ∀ x, ¬ scM m x → f' x = f x := by
      intro q'
      obtain ⟨f3, e3, fr3⟩ := ih (j + 1) fu f2 _ q' (by omega) (by omega) (h.sc fr) g2 (by rw [q_night_12, h12]) hk
      exact ⟨f3, e3, fun x hx => by rw [fr3 x hx, fr x hx]⟩
    show ∃ f', _ = some (q_ahv r (q_ah ψ l n (q_night ψ l 0 ρ) (if q_str l ρ 0 = 0 then q + 1 else q)) w, axM Z f') ∧ _
    by_cases c : q_str l ρ 0 = 0
    · rw [if_pos c, if_pos c]
      exact go _
    · rw [if_neg c, if_neg c, Int32.add_zero]
      exact go _
theorem qm_ahead {f : Nat → Nat → Int32} (hN : 200 < N) (h : HM Z m f ψ l r) (x w : Int32) : (∀ t, t ≤ 60 → x = Int32.ofNat t → (0 ≤ w ∧ w ≤ 3) → MQz Z m f (F_X10_ahead N m x w (axM Z f)) (q_ahv r (q_ah ψ l t r 0) w)) ∧ (¬ ((0 ≤ x ∧ x ≤ 60) ∧ (0 ≤ w ∧ w ≤ 3)) → MTz Z m f (F_X10_ahead N m x w (axM Z f)) 1 1) := by
  have ht0 := h.t0
  have h0 := h.1.1
  have hm := h.1
  obtain ⟨p28, s441, p27, s440⟩ := h.s441
  unfold F_X10_ahead F_X10_ahead_25 F_X10_ahead_30
  simp only [m_pi h0, m_is h0, axB_s, m_in]
  refine ⟨fun t ht ex c => ?_, fun c => ?_⟩
  · subst ex
    have z1 : 0 ≤ Int32.ofNat t ∧ Int32.ofNat t ≤ 60 := ⟨qi_ge (i := 0) (by omega) (by omega), qi_ge (j := 60) (by omega) (by omega)⟩
    rw [if_pos z1, if_neg (by decide), if_pos c, if_neg (by decide), qm_badF N h0]
    obtain ⟨f1, e1, g1, fr1⟩ := qm_copies_t hN ht0
    simp only [m_gr h0 p27, m_gr h0 p28, e1, axBV_s]
    obtain ⟨f2, e2, fr2⟩ := qm_ahead_l hN ht w t 0 N f1 r 0 (by omega) (by omega) (ht0.sc fr1) g1 h.2.2.2.2.2.2.2 (q_ok_mono (by omega) h.2.2.2.2.2.2.1)
    exact MQz.mkf f2 e2 (fun x hx => by rw [fr2 x hx, fr1 x hx])
  · by_cases c1 : 0 ≤ x ∧ x ≤ 60
    · rw [if_pos c1, if_neg (by decide), if_neg (fun q => c ⟨c1, q⟩), if_pos rfl]
      exact qm_badT1 N hm _ _
    · rw [if_neg c1, if_pos rfl]
      exact qm_badT1 N hm _ _
def q_loud (ψ : QF) (l : QL) : Nat → Nat → QR → Int32 → Int32 → Int32 × Int32
  | 0, _, _, best, most => (best, most)
  | n + 1, j, ρ, best, most => if q_str l ρ 0 ≤ most then q_loud ψ l n (j + 1) (q_night ψ l 0 ρ) best most else q_loud ψ l n (j + 1) (q_night ψ l 0 ρ) (Int32.ofNat j) (q_str l ρ 0)
def q_loudv (x : Int32 × Int32) (w : Int32) : Int32 := if w = 0 then x.1 else x.2
theorem qc_loudest_l (hN : 200 < N) (w : Int32) : ∀ (n j fu : Nat) (f : Nat → Nat → Int32) (ρ : QR) (best most : Int32), j + n = 60 → n < fu → HC Z b fa sf la sl bo sb f ψ l r → rdSt f (b + 34) = ρ → q_ok ψ (999 + j) ρ → CQz Z b f (F_X9_loudest_36 N fu b w most best (Int32.ofNat j) (axM Z f)) (q_loudv (q_loud ψ l n j ρ best most) w) := by
  intro n
  induction n with
  | zero =>
    intro j fu f ρ best most hj hfu h hρ hok
    obtain ⟨fu, rfl⟩ : ∃ q, fu = q + 1 := ⟨fu - 1, by omega⟩
    show CQz Z b f (F_X9_loudest_36b N (F_X9_loudest_36 N fu) b w most best (Int32.ofNat j) (axM Z f)) _
    unfold F_X9_loudest_36b
    rw [if_pos (show (60 : Int32) ≤ Int32.ofNat j from qi_ge (i := 60) (by omega) (by omega))]
    refine CQz.mk0 ?_
    unfold q_loudv q_loud
    by_cases c0 : w = 0
    · rw [if_pos c0, if_pos c0]
    rw [if_neg c0, if_neg c0]
  | succ n ih =>
    intro j fu f ρ best most hj hfu h hρ hok
    obtain ⟨fu, rfl⟩ : ∃ q, fu = q + 1 := ⟨fu - 1, by omega⟩
    show CQz Z b f (F_X9_loudest_36b N (F_X9_loudest_36 N fu) b w most best (Int32.ofNat j) (axM Z f)) _
    unfold F_X9_loudest_36b F_X9_loudest_66
    have h0 := h.1.1.1
    have p9 := h.1.2.2.2.2.2.2.2.2.1
    rw [if_neg (show ¬ (60 : Int32) ≤ Int32.ofNat j from qi_nge (i := 60) (by omega) (by omega))]
    obtain ⟨f1, e1, g1, fr1⟩ := qc_pass_t hN h hρ (show 999 + j < 2147483000 by omega) hok 0
    simp only [m_gr h0 p9.1, m_is h0, e1, axB_s, qi_s]
    have hk := q_ok_night l 0 h.2.2.1 (show 999 + j < 2147483000 by omega) hok
    have go : ∀ b' m', CQz Z b f (F_X9_loudest_36 N fu b w m' b' (Int32.ofNat (j + 1)) (axM Z f1)) (q_loudv (q_loud ψ l n (j + 1) (q_night ψ l 0 ρ) b' m') w) := by
      intro b' m'
      obtain ⟨f2, e2, fr2⟩ := ih (j + 1) fu f1 _ b' m' (by omega) (by omega) (h.sc fr1) g1 hk
      exact ⟨f2, e2, fun x hx => by rw [fr2 x hx, fr1 x hx]⟩
    show CQz Z b f _ (q_loudv (if q_str l ρ 0 ≤ most then _ else _) w)
    by_cases c : q_str l ρ 0 ≤ most
    · rw [if_pos c, if_pos c]
      exact go _ _
    · rw [if_neg c, if_neg c]
      exact go _ _
theorem qc_loudest {f : Nat → Nat → Int32} (hN : 200 < N) (h : HC Z b fa sf la sl bo sb f ψ l r) (w : Int32) : ((0 ≤ w ∧ w ≤ 1) → CQz Z b f (F_X9_loudest N b w (axM Z f)) (q_loudv (q_loud ψ l 60 0 r 0 (-1)) w)) ∧ (¬ (0 ≤ w ∧ w ≤ 1) → CTz Z b f (F_X9_loudest N b w (axM Z f)) q_iae 15) := by
  have h0 := h.1.1.1
  have p8 := h.1.2.2.2.2.2.2.2.1
  have p9 := h.1.2.2.2.2.2.2.2.2.1
  unfold F_X9_loudest F_X9_loudest_14 F_X9_loudest_15
  simp only [m_is h0, qc_need0 N h0, qc_need1, q_rg rfl, m_gr h0 p8.1, m_gr h0 p9.1, m_is p9.2.1]
  refine ⟨fun c => ?_, fun c => ?_⟩
  · rw [if_pos c]
    obtain ⟨f1, e1, g1, fr1⟩ := qc_take_t hN h
    rw [e1, axBV_s]
    obtain ⟨f2, e2, fr2⟩ := qc_loudest_l hN w 60 0 N f1 r 0 (-1) (by omega) (by omega) (h.sc fr1) g1 (q_ok_mono (by omega) h.2.2.2.2.2.2)
    exact ⟨f2, e2, fun x hx => by rw [fr2 x hx, fr1 x hx]⟩
  · rw [if_neg c]
    exact CTz.mk rfl
theorem qm_loudest_l (hN : 200 < N) (w : Int32) : ∀ (n j fu : Nat) (f : Nat → Nat → Int32) (ρ : QR) (best most : Int32), j + n = 60 → n < fu → HM Z m f ψ l r → rdM f (m + 441) = ρ → ρ 12 = 0 → q_ok ψ (999 + j) ρ → ∃ f', F_X10_loudest_48 N fu m w best most (Int32.ofNat j) (axM Z f) = some (q_loudv (q_loud ψ l n j ρ best most) w, axM Z f') ∧ ∀ x, ¬ scM m x → f' x = f x := by
  intro n
  induction n with
  | zero =>
    intro j fu f ρ best most hj hfu h hρ h12 hok
    obtain ⟨fu, rfl⟩ : ∃ q, fu = q + 1 := ⟨fu - 1, by omega⟩
    show ∃ f', F_X10_loudest_48b N (F_X10_loudest_48 N fu) m w best most (Int32.ofNat j) (axM Z f) = _ ∧ _
    unfold F_X10_loudest_48b
    rw [if_pos (show (60 : Int32) ≤ Int32.ofNat j from qi_ge (i := 60) (by omega) (by omega))]
    refine ⟨f, ?_, fun x _ => rfl⟩
    unfold q_loudv q_loud
    by_cases c0 : w = 0
    · rw [if_pos c0, if_pos c0]
    rw [if_neg c0, if_neg c0]
  | succ n ih =>
    intro j fu f ρ best most hj hfu h hρ h12 hok
    obtain ⟨fu, rfl⟩ : ∃ q, fu = q + 1 := ⟨fu - 1, by omega⟩
    show ∃ f', F_X10_loudest_48b N (F_X10_loudest_48 N fu) m w best most (Int32.ofNat j) (axM Z f) = _ ∧ _
    unfold F_X10_loudest_48b F_X10_loudest_77
    have h0 := h.1.1
    obtain ⟨p28, s441, p27, s440⟩ := h.s441
    rw [if_neg (show ¬ (60 : Int32) ≤ Int32.ofNat j from qi_nge (i := 60) (by omega) (by omega))]
    obtain ⟨f1, e1, g1, fr1⟩ := qm_str_t hN h hρ
    rw [h12] at e1
    obtain ⟨f2, e2, g2, fr2⟩ := qm_night_t hN (h.sc fr1) g1 (show 999 + j < 2147483000 by omega) hok
    rw [h12] at g2
    simp only [m_gr h0 p28, m_is h0, e1, axB_s, e2, axBV_s, qi_s]
    have hk := q_ok_night l 0 h.2.2.1 (show 999 + j < 2147483000 by omega) hok
    have fr : ∀ x, ¬ scM m x → f2 x = f x := fun x hx => by rw [fr2 x hx, fr1 x hx]
    have go : ∀ b' m', ∃ f', F_X10_loudest_48 N fu m w b' m' (Int32.ofNat (j + 1)) (axM Z f2) = some (q_loudv (q_loud ψ l n (j + 1) (q_night ψ l 0 ρ) b' m') w, axM Z f') ∧ ∀ x, ¬ scM m x → f' x = f x := by
      intro b' m'
      obtain ⟨f3, e3, fr3⟩ := ih (j + 1) fu f2 _ b' m' (by omega) (by omega) (h.sc fr) g2 (by rw [q_night_12, h12]) hk
      exact ⟨f3, e3, fun x hx => by rw [fr3 x hx, fr x hx]⟩
    show ∃ f', _ = some (q_loudv (if q_str l ρ 0 ≤ most then _ else _) w, axM Z f') ∧ _
    by_cases c : q_str l ρ 0 ≤ most
    · rw [if_pos c, if_pos c]
      exact go _ _
    · rw [if_neg c, if_neg c]
      exact go _ _
theorem qm_loudest {f : Nat → Nat → Int32} (hN : 200 < N) (h : HM Z m f ψ l r) (w : Int32) : ((0 ≤ w ∧ w ≤ 1) → MQz Z m f (F_X10_loudest N m w (axM Z f)) (q_loudv (q_loud ψ l 60 0 r 0 (-1)) w)) ∧ (¬ (0 ≤ w ∧ w ≤ 1) → MTz Z m f (F_X10_loudest N m w (axM Z f)) 1 1) := by
  have ht0 := h.t0
  have h0 := h.1.1
  have hm := h.1
  obtain ⟨p28, s441, p27, s440⟩ := h.s441
  unfold F_X10_loudest F_X10_loudest_20
  simp only [m_pi h0, m_is h0, axB_s, m_in]
  refine ⟨fun c => ?_, fun c => ?_⟩
  · rw [if_pos c, if_neg (by decide), qm_badF N h0]
    obtain ⟨f1, e1, g1, fr1⟩ := qm_copies_t hN ht0
    simp only [m_gr h0 p27, m_gr h0 p28, e1, axBV_s]
    obtain ⟨f2, e2, fr2⟩ := qm_loudest_l hN w 60 0 N f1 r 0 (-1) (by omega) (by omega) (ht0.sc fr1) g1 h.2.2.2.2.2.2.2 (q_ok_mono (by omega) h.2.2.2.2.2.2.1)
    exact MQz.mkf f2 e2 (fun x hx => by rw [fr2 x hx, fr1 x hx])
  · rw [if_neg c, if_pos rfl]
    exact qm_badT1 N hm _ _
def q_hush (l : QL) (r : QR) (w : Int32) : Nat → Nat → Int32
  | 0, _ => -1
  | n + 1, j => if q_can r (Int32.ofNat j) = true then (if w < q_str l (q_pay (Int32.ofNat j) r) 0 then q_hush l r w n (j + 1) else Int32.ofNat j) else -1
theorem qc_hush_l (hN : 200 < N) (w : Int32) : ∀ (n j fu : Nat) (f : Nat → Nat → Int32), j + n = 1000 → n < fu → HC Z b fa sf la sl bo sb f ψ l r → CQz Z b f (F_X9_hush_22 N fu b w (Int32.ofNat j) (axM Z f)) (q_hush l r w n j) := by
  intro n
  induction n with
  | zero =>
    intro j fu f hj hfu h
    obtain ⟨fu, rfl⟩ : ∃ q, fu = q + 1 := ⟨fu - 1, by omega⟩
    show CQz Z b f (F_X9_hush_22b N (F_X9_hush_22 N fu) b w (Int32.ofNat j) (axM Z f)) _
    unfold F_X9_hush_22b
    rw [if_pos (show (999 : Int32) < Int32.ofNat j from qi_gt (i := 999) (by omega) (by omega))]
    exact CQz.mk0 rfl
  | succ n ih =>
    intro j fu f hj hfu h
    obtain ⟨fu, rfl⟩ : ∃ q, fu = q + 1 := ⟨fu - 1, by omega⟩
    show CQz Z b f (F_X9_hush_22b N (F_X9_hush_22 N fu) b w (Int32.ofNat j) (axM Z f)) _
    unfold F_X9_hush_22b
    have h0 := h.1.1.1
    have p8 := h.1.2.2.2.2.2.2.2.1
    have p9 := h.1.2.2.2.2.2.2.2.2.1
    rw [if_neg (show ¬ (999 : Int32) < Int32.ofNat j from qi_ngt (i := 999) (by omega) (by omega))]
    obtain ⟨f1, e1, g1, fr1⟩ := qc_take_t hN h
    obtain ⟨f2, e2, g2, fr2⟩ := qc_pays_t (N := N) (h.sc fr1) g1 (Int32.ofNat j)
    have fr12 : ∀ x, ¬ scC b x → f2 x = f x := fun x hx => by rw [fr2 x hx, fr1 x hx]
    obtain ⟨f3, e3, g3, fr3⟩ := qc_str_t hN (h.sc fr12) g2 0
    have fr : ∀ x, ¬ scC b x → f3 x = f x := fun x hx => by rw [fr3 x hx, fr12 x hx]
    simp only [m_gr h0 p8.1, m_gr h0 p9.1, m_is p9.2.1, m_is h0, e1, axBV_s, e2, axB_s, e3, qi_s]
    show CQz Z b f _ (if q_can r (Int32.ofNat j) = true then (if w < q_str l (q_pay (Int32.ofNat j) r) 0 then _ else _) else -1)
    by_cases c : q_can r (Int32.ofNat j) = true
    · rw [if_pos c, if_neg (by decide), if_pos c]
      by_cases c2 : w < q_str l (q_pay (Int32.ofNat j) r) 0
      · rw [if_pos c2, if_pos c2]
        obtain ⟨f4, e4, fr4⟩ := ih (j + 1) fu f3 (by omega) (by omega) (h.sc fr)
        exact ⟨f4, e4, fun x hx => by rw [fr4 x hx, fr x hx]⟩
      · rw [if_neg c2, if_neg c2]
        exact CQz.mk f3 rfl fr
    · rw [if_neg c, if_pos rfl, if_neg c]
      exact CQz.mk f2 rfl fr12
theorem qc_hush {f : Nat → Nat → Int32} (hN : 2000 < N) (h : HC Z b fa sf la sl bo sb f ψ l r) (w : Int32) : ((0 ≤ w ∧ w ≤ 999) → CQz Z b f (F_X9_hush N b w (axM Z f)) (q_hush l r w 1000 0)) ∧ (¬ (0 ≤ w ∧ w ≤ 999) → CTz Z b f (F_X9_hush N b w (axM Z f)) q_iae 15) := by
  have h0 := h.1.1.1
  unfold F_X9_hush F_X9_hush_16 F_X9_hush_17
  simp only [m_is h0, qc_need0 N h0, qc_need1, q_rg rfl]
  refine ⟨fun c => ?_, fun c => ?_⟩
  · rw [if_pos c]
    exact qc_hush_l (by omega) w 1000 0 N f (by omega) (by omega) h
  · rw [if_neg c]
    exact CTz.mk rfl
theorem qm_hush_l (hN : 200 < N) (w : Int32) : ∀ (n j fu : Nat) (f : Nat → Nat → Int32), j + n = 1000 → n < fu → HM Z m f ψ l r → ∃ f', F_X10_hush_34 N fu m w (Int32.ofNat j) (axM Z f) = some (q_hush l r w n j, axM Z f') ∧ ∀ x, ¬ scM m x → f' x = f x := by
  intro n
  induction n with
  | zero =>
    intro j fu f hj hfu h
    obtain ⟨fu, rfl⟩ : ∃ q, fu = q + 1 := ⟨fu - 1, by omega⟩
    show ∃ f', F_X10_hush_34b N (F_X10_hush_34 N fu) m w (Int32.ofNat j) (axM Z f) = _ ∧ _
    unfold F_X10_hush_34b
    rw [if_pos (show (999 : Int32) < Int32.ofNat j from qi_gt (i := 999) (by omega) (by omega))]
    exact ⟨f, rfl, fun x _ => rfl⟩
  | succ n ih =>
    intro j fu f hj hfu h
    obtain ⟨fu, rfl⟩ : ∃ q, fu = q + 1 := ⟨fu - 1, by omega⟩
    show ∃ f', F_X10_hush_34b N (F_X10_hush_34 N fu) m w (Int32.ofNat j) (axM Z f) = _ ∧ _
    unfold F_X10_hush_34b
    have h0 := h.1.1
    obtain ⟨p28, s441, p27, s440⟩ := h.s441
    rw [if_neg (show ¬ (999 : Int32) < Int32.ofNat j from qi_ngt (i := 999) (by omega) (by omega))]
    obtain ⟨f1, e1, g1, fr1⟩ := qm_copies_t hN h
    obtain ⟨f2, e2, g2, fr2⟩ := qm_pays_t (N := N) (h.sc fr1) g1 (Int32.ofNat j)
    have fr12 : ∀ x, ¬ scM m x → f2 x = f x := fun x hx => by rw [fr2 x hx, fr1 x hx]
    obtain ⟨f3, e3, g3, fr3⟩ := qm_str_t hN (h.sc fr12) g2
    rw [q_pay_12, h.2.2.2.2.2.2.2] at e3
    have fr : ∀ x, ¬ scM m x → f3 x = f x := fun x hx => by rw [fr3 x hx, fr12 x hx]
    simp only [m_gr h0 p27, m_gr h0 p28, m_is h0, e1, axBV_s, e2, axB_s, e3, qi_s]
    show ∃ f', _ = some ((if q_can r (Int32.ofNat j) = true then (if w < q_str l (q_pay (Int32.ofNat j) r) 0 then _ else _) else -1), axM Z f') ∧ _
    by_cases c : q_can r (Int32.ofNat j) = true
    · rw [if_pos c, if_neg (by decide), if_pos c]
      by_cases c2 : w < q_str l (q_pay (Int32.ofNat j) r) 0
      · rw [if_pos c2, if_pos c2]
        obtain ⟨f4, e4, fr4⟩ := ih (j + 1) fu f3 (by omega) (by omega) (h.sc fr)
        exact ⟨f4, e4, fun x hx => by rw [fr4 x hx, fr x hx]⟩
      · rw [if_neg c2, if_neg c2]
        exact ⟨f3, rfl, fr⟩
    · rw [if_neg c, if_pos rfl, if_neg c]
      exact ⟨f2, rfl, fr12⟩
theorem qm_hush {f : Nat → Nat → Int32} (hN : 2000 < N) (h : HM Z m f ψ l r) (w : Int32) : ((0 ≤ w ∧ w ≤ 999) → MQz Z m f (F_X10_hush N m w (axM Z f)) (q_hush l r w 1000 0)) ∧ (¬ (0 ≤ w ∧ w ≤ 999) → MTz Z m f (F_X10_hush N m w (axM Z f)) 1 1) := by
  have ht0 := h.t0
  have h0 := h.1.1
  have hm := h.1
  unfold F_X10_hush F_X10_hush_22
  simp only [m_pi h0, m_is h0, axB_s, m_in]
  refine ⟨fun c => ?_, fun c => ?_⟩
  · rw [if_pos c, if_neg (by decide), qm_badF N h0]
    obtain ⟨f2, e2, fr2⟩ := qm_hush_l (N := N) (by omega) w 1000 0 N _ (by omega) (by omega) ht0
    exact MQz.mkf f2 e2 fr2
  · rw [if_neg c, if_pos rfl]
    exact qm_badT1 N hm _ _
def q_grows (ψ : QF) (l : QL) (x : Int32) : Nat → Nat → QR → Int32
  | 0, _, _ => -1
  | n + 1, j, ρ => if ρ 0 < x then q_grows ψ l x n (j + 1) (q_night ψ l 0 ρ) else Int32.ofNat j
theorem qc_grows_l (hN : 200 < N) (w : Int32) : ∀ (n j fu : Nat) (f : Nat → Nat → Int32) (ρ : QR), j + n = 121 → n < fu → HC Z b fa sf la sl bo sb f ψ l r → rdSt f (b + 34) = ρ → q_ok ψ (999 + j) ρ → CQz Z b f (F_X9_grows_32 N fu b w (Int32.ofNat j) (axM Z f)) (q_grows ψ l w n j ρ) := by
  intro n
  induction n with
  | zero =>
    intro j fu f ρ hj hfu h hρ hok
    obtain ⟨fu, rfl⟩ : ∃ q, fu = q + 1 := ⟨fu - 1, by omega⟩
    show CQz Z b f (F_X9_grows_32b N (F_X9_grows_32 N fu) b w (Int32.ofNat j) (axM Z f)) _
    unfold F_X9_grows_32b
    rw [if_pos (show (120 : Int32) < Int32.ofNat j from qi_gt (i := 120) (by omega) (by omega))]
    exact CQz.mk0 rfl
  | succ n ih =>
    intro j fu f ρ hj hfu h hρ hok
    obtain ⟨fu, rfl⟩ : ∃ q, fu = q + 1 := ⟨fu - 1, by omega⟩
    show CQz Z b f (F_X9_grows_32b N (F_X9_grows_32 N fu) b w (Int32.ofNat j) (axM Z f)) _
    unfold F_X9_grows_32b
    have h0 := h.1.1.1
    have p9 := h.1.2.2.2.2.2.2.2.2.1
    rw [if_neg (show ¬ (120 : Int32) < Int32.ofNat j from qi_ngt (i := 120) (by omega) (by omega))]
    obtain ⟨f1, e1, g1, fr1⟩ := qc_pass_t hN h hρ (show 999 + j < 2147483000 by omega) hok 0
    have e0 : f (b + 34) 0 = ρ 0 := by rw [← hρ]; rfl
    simp only [m_gr h0 p9.1, m_gi p9.2.1, m_is h0, e0, e1, axB_s, qi_s]
    have hk := q_ok_night l 0 h.2.2.1 (show 999 + j < 2147483000 by omega) hok
    show CQz Z b f _ (if ρ 0 < w then _ else _)
    by_cases c : ρ 0 < w
    · rw [if_pos c, if_pos c]
      obtain ⟨f2, e2, fr2⟩ := ih (j + 1) fu f1 _ (by omega) (by omega) (h.sc fr1) g1 hk
      exact ⟨f2, e2, fun x hx => by rw [fr2 x hx, fr1 x hx]⟩
    · rw [if_neg c, if_neg c]
      exact CQz.mk0 rfl
theorem qc_grows {f : Nat → Nat → Int32} (hN : 200 < N) (h : HC Z b fa sf la sl bo sb f ψ l r) (w : Int32) : ((0 ≤ w ∧ w ≤ 99999) → CQz Z b f (F_X9_grows N b w (axM Z f)) (q_grows ψ l w 121 0 r)) ∧ (¬ (0 ≤ w ∧ w ≤ 99999) → CTz Z b f (F_X9_grows N b w (axM Z f)) q_iae 15) := by
  have h0 := h.1.1.1
  have p8 := h.1.2.2.2.2.2.2.2.1
  have p9 := h.1.2.2.2.2.2.2.2.2.1
  unfold F_X9_grows F_X9_grows_15 F_X9_grows_16
  simp only [m_is h0, qc_need0 N h0, qc_need1, q_rg rfl, m_gr h0 p8.1, m_gr h0 p9.1, m_is p9.2.1]
  refine ⟨fun c => ?_, fun c => ?_⟩
  · rw [if_pos c]
    obtain ⟨f1, e1, g1, fr1⟩ := qc_take_t hN h
    rw [e1, axBV_s]
    obtain ⟨f2, e2, fr2⟩ := qc_grows_l hN w 121 0 N f1 r (by omega) (by omega) (h.sc fr1) g1 (q_ok_mono (by omega) h.2.2.2.2.2.2)
    exact ⟨f2, e2, fun x hx => by rw [fr2 x hx, fr1 x hx]⟩
  · rw [if_neg c]
    exact CTz.mk rfl
theorem qm_grows_l (hN : 200 < N) (w : Int32) : ∀ (n j fu : Nat) (f : Nat → Nat → Int32) (ρ : QR), j + n = 121 → n < fu → HM Z m f ψ l r → rdM f (m + 441) = ρ → ρ 12 = 0 → q_ok ψ (999 + j) ρ → ∃ f', F_X10_grows_45 N fu m w (Int32.ofNat j) (axM Z f) = some (q_grows ψ l w n j ρ, axM Z f') ∧ ∀ x, ¬ scM m x → f' x = f x := by
  intro n
  induction n with
  | zero =>
    intro j fu f ρ hj hfu h hρ h12 hok
    obtain ⟨fu, rfl⟩ : ∃ q, fu = q + 1 := ⟨fu - 1, by omega⟩
    show ∃ f', F_X10_grows_45b N (F_X10_grows_45 N fu) m w (Int32.ofNat j) (axM Z f) = _ ∧ _
    unfold F_X10_grows_45b
    rw [if_pos (show (120 : Int32) < Int32.ofNat j from qi_gt (i := 120) (by omega) (by omega))]
    exact ⟨f, rfl, fun x _ => rfl⟩
  | succ n ih =>
    intro j fu f ρ hj hfu h hρ h12 hok
    obtain ⟨fu, rfl⟩ : ∃ q, fu = q + 1 := ⟨fu - 1, by omega⟩
    show ∃ f', F_X10_grows_45b N (F_X10_grows_45 N fu) m w (Int32.ofNat j) (axM Z f) = _ ∧ _
    unfold F_X10_grows_45b
    have h0 := h.1.1
    obtain ⟨p28, s441, p27, s440⟩ := h.s441
    rw [if_neg (show ¬ (120 : Int32) < Int32.ofNat j from qi_ngt (i := 120) (by omega) (by omega))]
    obtain ⟨f1, e1, g1, fr1⟩ := qm_night_t hN h hρ (show 999 + j < 2147483000 by omega) hok
    rw [h12] at g1
    have e0 : f (m + 441) 0 = ρ 0 := by rw [rdM_k f (m + 441) (show 0 < 29 by omega), hρ]
    simp only [m_gr h0 p28, m_ld29_0 s441, m_is h0, e0, e1, axBV_s, qi_s]
    have hk := q_ok_night l 0 h.2.2.1 (show 999 + j < 2147483000 by omega) hok
    show ∃ f', _ = some ((if ρ 0 < w then _ else _), axM Z f') ∧ _
    by_cases c : ρ 0 < w
    · rw [if_pos c, if_pos c]
      obtain ⟨f2, e2, fr2⟩ := ih (j + 1) fu f1 _ (by omega) (by omega) (h.sc fr1) g1 (by rw [q_night_12, h12]) hk
      exact ⟨f2, e2, fun x hx => by rw [fr2 x hx, fr1 x hx]⟩
    · rw [if_neg c, if_neg c]
      exact ⟨f, rfl, fun x _ => rfl⟩
theorem qm_grows {f : Nat → Nat → Int32} (hN : 200 < N) (h : HM Z m f ψ l r) (w : Int32) : ((0 ≤ w ∧ w ≤ 99999) → MQz Z m f (F_X10_grows N m w (axM Z f)) (q_grows ψ l w 121 0 r)) ∧ (¬ (0 ≤ w ∧ w ≤ 99999) → MTz Z m f (F_X10_grows N m w (axM Z f)) 1 1) := by
  have ht0 := h.t0
  have h0 := h.1.1
  have hm := h.1
  obtain ⟨p28, s441, p27, s440⟩ := h.s441
  unfold F_X10_grows F_X10_grows_22
  simp only [m_pi h0, m_is h0, axB_s, m_in]
  refine ⟨fun c => ?_, fun c => ?_⟩
  · rw [if_pos c, if_neg (by decide), qm_badF N h0]
    obtain ⟨f1, e1, g1, fr1⟩ := qm_copies_t hN ht0
    simp only [m_gr h0 p27, m_gr h0 p28, e1, axBV_s]
    obtain ⟨f2, e2, fr2⟩ := qm_grows_l hN w 121 0 N f1 r (by omega) (by omega) (ht0.sc fr1) g1 h.2.2.2.2.2.2.2 (q_ok_mono (by omega) h.2.2.2.2.2.2.1)
    exact MQz.mkf f2 e2 (fun x hx => by rw [fr2 x hx, fr1 x hx])
  · rw [if_neg c, if_pos rfl]
    exact qm_badT1 N hm _ _
end
