/-! years and their span -/
def q_next (s : Int32) : Int32 := s * 1103515245 + 12345
def q_lot (s : Int32) : Int32 := (s >>> ((16 : Int32) &&& 31)) &&& 15
def q_givesL (ψ : QF) (ρ : QR) : Nat → QR
  | 0 => ρ
  | n + 1 => q_give (Int32.ofNat n) (ψ 2 n) (q_givesL ψ ρ n)
def q_yr (ψ : QF) (p s : Int32) (ρ : QR) : QR := if q_lot s < p then ρ else q_givesL ψ ρ (ψ 0 3).toNatClampNeg
def q_yp (k : Int32) (ρ : QR) : QR := q_pay (q_min k (q_min (ρ 1) (ρ 0))) ρ
def q_sto (q s : Int32) : Int32 := if q_lot s < q then 1 else 0
def q_years (ψ : QF) (l : QL) (q p k : Int32) : Nat → Int32 → Int32 → QR → Int32 × QR
  | 0, _, c, ρ => (c, ρ)
  | n + 1, s, c, ρ => q_years ψ l q p k n (q_next (q_next s)) (c + q_sto q (q_next s)) (q_night ψ l (q_sto q (q_next s)) (q_yp k (q_yr ψ p (q_next (q_next s)) ρ)))
theorem q_years_s (ψ : QF) (l : QL) (q p k : Int32) (n : Nat) (s c : Int32) (ρ : QR) : q_years ψ l q p k (n + 1) s c ρ = q_years ψ l q p k n (q_next (q_next s)) (c + q_sto q (q_next s)) (q_night ψ l (q_sto q (q_next s)) (q_yp k (q_yr ψ p (q_next (q_next s)) ρ))) := rfl
-- a row's twelfth place goes along
theorem q_set_set (r : QR) {i j : Nat} (v w : Int32) (h : i ≠ j) : q_set (q_set r i v) j w = q_set (q_set r j w) i v := by
  funext k
  unfold q_set
  by_cases h1 : k = j
  · rw [if_pos h1, if_neg (by omega), if_pos h1]
  · rw [if_neg h1]
    by_cases h2 : k = i
    · rw [if_pos h2, if_pos h2]
    · rw [if_neg h2, if_neg h2, if_neg h1]
theorem q_can_12 (r : QR) (v n : Int32) : q_can (q_set r 12 v) n = q_can r n := rfl
theorem q_pay_s (r : QR) (v n : Int32) : q_pay n (q_set r 12 v) = q_set (q_pay n r) 12 v := by
  unfold q_pay
  rw [q_can_12]
  split
  · rw [q_set_set _ _ _ (show 4 ≠ 12 by omega), q_set_set _ _ _ (show 0 ≠ 12 by omega), q_set_set _ _ _ (show 1 ≠ 12 by omega)]
    rfl
  · rfl
theorem q_give_s (r : QR) (v x a : Int32) : q_give x a (q_set r 12 v) = q_set (q_give x a r) 12 v := by
  unfold q_give
  show (if q_bit (r 11) x = 1 then _ else _) = _
  split
  · rfl
  · rw [q_set_set _ _ _ (show 1 ≠ 12 by omega), q_set_set _ _ _ (show 11 ≠ 12 by omega)]
    rfl
theorem q_str_s (l : QL) (r : QR) (v st : Int32) : q_str l (q_set r 12 v) st = q_str l r st := rfl
theorem q_wk_s (ψ : QF) (r : QR) (v s : Int32) (n : Nat) : q_wk ψ (q_set r 12 v) s n = q_wk ψ r s n := by
  unfold q_wk
  rw [q_set_n _ _ (by omega), q_set_n _ _ (by omega)]
theorem q_wakeL_s (ψ : QF) (r : QR) (v s : Int32) : ∀ n, q_wakeL ψ s (q_set r 12 v) n = q_set (q_wakeL ψ s r n) 12 v
  | 0 => rfl
  | n + 1 => by
    show (if q_wk ψ (q_set r 12 v) s n = true then _ else _ : QR) = q_set (if q_wk ψ r s n = true then _ else _) 12 v
    rw [q_wk_s, q_wakeL_s ψ r v s n]
    split
    · rw [q_set_set _ _ _ (show 10 ≠ 12 by omega), q_set_set _ _ _ (show 21 + n ≠ 12 by omega), q_set_n _ _ (show 10 ≠ 12 by omega), q_set_n _ _ (show 21 + n ≠ 12 by omega)]
    · rfl
theorem q_t25_s (ψ : QF) (rate w : Int32) (r : QR) (v : Int32) : q_t25 ψ rate w (q_set r 12 v) = q_set (q_t25 ψ rate w r) 12 v := by
  refine q_ext ⟨rfl, rfl, rfl, rfl, rfl, rfl, rfl, rfl, rfl, rfl, rfl, rfl, rfl⟩ (fun k => ?_)
  rw [q_set_t _ _ (by omega)]
  show q_set r 12 v (k + 13) = r (k + 13)
  rw [q_set_t _ _ (by omega)]
theorem q_night_s (ψ : QF) (l : QL) (st : Int32) (r : QR) (v : Int32) : q_night ψ l st (q_set r 12 v) = q_set (q_night ψ l st r) 12 v := by
  unfold q_night q_turn
  rw [q_str_s, q_wakeL_s, ← q_t25_s, q_set_set _ _ _ (show 12 ≠ 9 by omega)]
  rfl
theorem q_set_2 (r : QR) (k : Nat) (v w : Int32) : q_set (q_set r k v) k w = q_set r k w := by
  funext j
  unfold q_set
  split <;> rfl
theorem q_ok_give {ψ : QF} {B : Nat} {r : QR} {a : Nat} (x : Int32) (ha : a ≤ 100000) (h : q_ok ψ B r) : q_ok ψ B (q_give x (Int32.ofNat a) r) := by
  unfold q_give
  split
  · exact h
  · obtain ⟨h2, h5, h67, hb, ho, ⟨ch, hc, ec⟩⟩ := h
    refine ⟨h2, h5, h67, fun k hk => ?_, ho, ⟨min 9999 (ch + a), by omega, ?_⟩⟩
    · obtain ⟨cc, q1, q2⟩ := hb k hk
      exact ⟨cc, q1, by rw [q_set_n _ _ (by omega), q_set_n _ _ (by omega), q2]⟩
    · show q_min 9999 (r 1 + Int32.ofNat a) = _
      rw [ec, qi_add]
      exact q_minn (i := 9999) (by omega) (by omega)
theorem q_fw_alms {ψ : QF} (h : q_fw ψ) {v : Nat} (hv : v < (ψ 0 3).toNatClampNeg) : v < 6 ∧ ∃ x, x ≤ 20 ∧ 1 ≤ x ∧ ψ 2 v = Int32.ofNat x := by
  obtain ⟨⟨nv, nc, nm, nh, e1, e2, e3, e4, b1, b2, b3, b4, f1, f2, f3, f4⟩, -⟩ := h
  rw [e1, qi_tn (by omega)] at hv
  exact ⟨by omega, f1 v hv⟩
theorem q_ok_gives {ψ : QF} {B : Nat} {r : QR} (hw : q_fw ψ) (h : q_ok ψ B r) : ∀ n, n ≤ (ψ 0 3).toNatClampNeg → q_ok ψ B (q_givesL ψ r n)
  | 0, _ => h
  | n + 1, hn => by
    obtain ⟨-, x, hx, -, e⟩ := q_fw_alms hw (show n < (ψ 0 3).toNatClampNeg by omega)
    show q_ok ψ B (q_give (Int32.ofNat n) (ψ 2 n) (q_givesL ψ r n))
    rw [e]
    exact q_ok_give _ (by omega) (q_ok_gives hw h n (by omega))
theorem q_gives_12 (ψ : QF) (r : QR) : ∀ n, q_givesL ψ r n 12 = r 12
  | 0 => rfl
  | n + 1 => by
    show q_give (Int32.ofNat n) (ψ 2 n) (q_givesL ψ r n) 12 = r 12
    unfold q_give
    split
    · exact q_gives_12 ψ r n
    · rw [q_set_n _ _ (by omega), q_set_n _ _ (by omega), q_gives_12 ψ r n]
theorem q_gives_s (ψ : QF) (r : QR) (v : Int32) : ∀ n, q_givesL ψ (q_set r 12 v) n = q_set (q_givesL ψ r n) 12 v
  | 0 => rfl
  | n + 1 => by
    show q_give _ _ _ = q_set (q_give _ _ _) 12 v
    rw [q_gives_s ψ r v n, q_give_s]
theorem q_ok_yr {ψ : QF} {B : Nat} {r : QR} (hw : q_fw ψ) (p s : Int32) (h : q_ok ψ B r) : q_ok ψ B (q_yr ψ p s r) := by
  unfold q_yr
  split
  · exact h
  · exact q_ok_gives hw h _ (Nat.le_refl _)
theorem q_ok_yp {ψ : QF} {B : Nat} {r : QR} {k : Nat} (hk : k < 2147483648) (h : q_ok ψ B r) : q_ok ψ B (q_yp (Int32.ofNat k) r) := by
  obtain ⟨o, ho, eo⟩ := h.2.2.2.2.1
  obtain ⟨c, hc, ec⟩ := h.2.2.2.2.2
  unfold q_yp
  rw [eo, ec, q_minn (by omega) (by omega), q_minn hk (by omega)]
  exact q_ok_pay (by omega) h
theorem m_next (N : Nat) (y : Int32) (S : AxS) : F_X9_nextSeed N y S = some (q_next y, S) := rfl
theorem m_six (N : Nat) (y : Int32) (S : AxS) : F_X9_sixteenth N y S = some (q_lot y, S) := by
  unfold F_X9_sixteenth
  rw [m_ne (by decide), q_six]
  rfl
section
variable {Z : AxS} {b m fa sf la sl bo sb N B : Nat} {ψ : QF} {l : QL} {r ρ : QR} {f f0 : Nat → Nat → Int32}
theorem qc_gives_t (h : HC Z b fa sf la sl bo sb f ψ l r) (hρ : rdSt f (b + 34) = ρ) (v n : Int32) : ∃ f', F_X5_gives N (b + 34) v n (axM Z f) = some (if q_bit (ρ 11) v = 1 then 0 else 1, axM Z f') ∧ rdSt f' (b + 34) = q_give v n ρ ∧ ∀ x, ¬ scC b x → f' x = f x := by
  obtain ⟨f', e, g1, g2⟩ := qc_gives (f := f) N v n h.1.2.2.2.2.2.2.2.2.1.2
  rw [hρ] at e g1
  exact ⟨f', e, g1, fun x hx => g2 x (by unfold scC at hx; omega)⟩
/-- behind the alms: what is paid, and the night -/
theorem qc_yr116 (hN : 200 < N) (h : HC Z b fa sf la sl bo sb f ψ l r) (hρ : rdSt f (b + 34) = ρ) (hB : B < 2147483000) {k : Nat} (hk : k < 2147483648) (hok : q_ok ψ B ρ) (K : Nat → Int32 → Int32 → Int32 → Int32 → Int32 → Int32 → Int32 → AxS → Option (Int32 × AxS)) (v2 v3 v4 v6 v7 v8 st : Int32) : ∃ f', F_X9_runYears_116 N K b v2 v3 v4 (Int32.ofNat k) v6 v7 v8 st (axM Z f) = K b v2 v3 v4 (Int32.ofNat k) v6 v7 (v8 + 1) (axM Z f') ∧ rdSt f' (b + 34) = q_night ψ l st (q_yp (Int32.ofNat k) ρ) ∧ ∀ x, ¬ scC b x → f' x = f x := by
  have h0 := h.1.1.1
  have p9 := h.1.2.2.2.2.2.2.2.2.1
  unfold F_X9_runYears_116
  have r1 : f (b + 34) 1 = ρ 1 := by rw [← hρ]; rfl
  have r0 : f (b + 34) 0 = ρ 0 := by rw [← hρ]; rfl
  obtain ⟨f1, e1, g1, fr1⟩ := qc_pays_t (N := N) h hρ (q_min (Int32.ofNat k) (q_min (ρ 1) (ρ 0)))
  obtain ⟨f2, e2, g2, fr2⟩ := qc_pass_t hN (h.sc fr1) g1 hB (q_ok_yp hk hok) st
  simp only [m_gr h0 p9.1, m_gi p9.2.1, r1, r0, m_min, axB_s, m_is p9.2.1, e1, m_is h0]
  rw [e2, axB_s]
  exact ⟨f2, rfl, g2, fun x hx => by rw [fr2 x hx, fr1 x hx]⟩
theorem qc_yr76 (hN : 200 < N) (hw : q_fw ψ) (hB : B < 2147483000) {k : Nat} (hk : k < 2147483648) (hok : q_ok ψ B ρ) (K : Nat → Int32 → Int32 → Int32 → Int32 → Int32 → Int32 → Int32 → AxS → Option (Int32 × AxS)) (v2 v3 v4 v6 v7 v8 st : Int32) : ∀ (n j fu : Nat) (f : Nat → Nat → Int32), j + n = (ψ 0 3).toNatClampNeg → n < fu → HC Z b fa sf la sl bo sb f ψ l r → rdSt f (b + 34) = q_givesL ψ ρ j → ∃ f', F_X9_runYears_76 N K fu b v2 v3 v4 (Int32.ofNat k) v6 v7 v8 st (Int32.ofNat j) (axM Z f) = K b v2 v3 v4 (Int32.ofNat k) v6 v7 (v8 + 1) (axM Z f') ∧ rdSt f' (b + 34) = q_night ψ l st (q_yp (Int32.ofNat k) (q_givesL ψ ρ (ψ 0 3).toNatClampNeg)) ∧ ∀ x, ¬ scC b x → f' x = f x := by
  obtain ⟨nv, n6, en, et⟩ := (q_fw_n hw).1
  intro n
  induction n with
  | zero =>
    intro j fu f hj hfu h hρ
    obtain ⟨fu, rfl⟩ : ∃ q, fu = q + 1 := ⟨fu - 1, by omega⟩
    show ∃ f', F_X9_runYears_76b N K (F_X9_runYears_76 N K fu) b v2 v3 v4 (Int32.ofNat k) v6 v7 v8 st (Int32.ofNat j) (axM Z f) = _ ∧ _
    unfold F_X9_runYears_76b
    have h0 := h.1.1.1
    have pf := h.1.1.2.1
    have hfa := h.1.2.1.1
    have e3 : f fa 3 = ψ 0 3 := rdF_0 h.2.1 (by omega)
    simp only [m_gr h0 pf, m_gi hfa.1, e3]
    rw [if_pos (by rw [en]; exact qi_ge (by omega) (by omega))]
    have hjn : j = (ψ 0 3).toNatClampNeg := by omega
    subst hjn
    exact qc_yr116 hN h hρ hB hk (q_ok_gives hw hok _ (Nat.le_refl _)) K v2 v3 v4 v6 v7 v8 st
  | succ n ih =>
    intro j fu f hj hfu h hρ
    obtain ⟨fu, rfl⟩ : ∃ q, fu = q + 1 := ⟨fu - 1, by omega⟩
    show ∃ f', F_X9_runYears_76b N K (F_X9_runYears_76 N K fu) b v2 v3 v4 (Int32.ofNat k) v6 v7 v8 st (Int32.ofNat j) (axM Z f) = _ ∧ _
    unfold F_X9_runYears_76b
    have h0 := h.1.1.1
    have pf := h.1.1.2.1
    have hfa := h.1.2.1.1
    have p9 := h.1.2.2.2.2.2.2.2.2.1
    have e3 : f fa 3 = ψ 0 3 := rdF_0 h.2.1 (by omega)
    obtain ⟨f1, e1, g1, fr1⟩ := qc_gives_t (N := N) h hρ (Int32.ofNat j) (ψ 2 j)
    simp only [m_gr h0 pf, m_gi hfa.1, e3, m_gr h0 p9.1, m_gr hfa.1 hfa.2.2.1.1, m_atn N hfa.2.2.1.2 (show j < 6 by omega) (by omega), axB_s, rdF_2 h.2.1 (show j < (ψ 0 3).toNatClampNeg by omega), m_is p9.2.1, e1, qi_s]
    rw [if_neg (by rw [en]; exact qi_nge (by omega) (by omega))]
    obtain ⟨f2, e2, g2, fr2⟩ := ih (j + 1) fu f1 (by omega) (by omega) (h.sc fr1) g1
    exact ⟨f2, e2, g2, fun x hx => by rw [fr2 x hx, fr1 x hx]⟩
theorem qc_yr47 (K : Nat → Int32 → Int32 → Int32 → Int32 → Int32 → Int32 → Int32 → AxS → Option (Int32 × AxS)) (v2 v3 v4 v5 v6 v7 v8 st : Int32) (S : AxS) : F_X9_runYears_47 N K b v2 v3 v4 v5 v6 v7 v8 st S = if q_lot (q_next v6) < v4 then F_X9_runYears_116 N K b v2 v3 v4 v5 (q_next v6) (v7 + st) v8 st S else F_X9_runYears_76 N K N b v2 v3 v4 v5 (q_next v6) (v7 + st) v8 st 0 S := by
  unfold F_X9_runYears_47
  rw [m_next, axB_s, m_six, axB_s]
theorem qc_yr20 (K : Nat → Int32 → Int32 → Int32 → Int32 → Int32 → Int32 → Int32 → AxS → Option (Int32 × AxS)) (v2 v3 v4 v5 v6 v7 v8 : Int32) (S : AxS) : F_X9_runYears_20b N K b v2 v3 v4 v5 v6 v7 v8 S = if v2 ≤ v8 then some (v7, S) else if v3 ≤ q_lot (q_next v6) then F_X9_runYears_47 N K b v2 v3 v4 v5 (q_next v6) v7 v8 0 S else F_X9_runYears_47 N K b v2 v3 v4 v5 (q_next v6) v7 v8 1 S := by
  unfold F_X9_runYears_20b
  rw [m_next, axB_s, m_six, axB_s]
theorem qc_years_l (hN : 200 < N) {t k : Nat} (ht : t ≤ 96) (hk : k < 2147483648) (q p : Int32) : ∀ (n j fu : Nat) (f : Nat → Nat → Int32) (ρ : QR) (s c : Int32), j + n = t → n < fu → HC Z b fa sf la sl bo sb f ψ l r → rdSt f (b + 34) = ρ → q_ok ψ (999 + j) ρ → ∃ f', F_X9_runYears_20 N fu b (Int32.ofNat t) q p (Int32.ofNat k) s c (Int32.ofNat j) (axM Z f) = some ((q_years ψ l q p (Int32.ofNat k) n s c ρ).1, axM Z f') ∧ rdSt f' (b + 34) = (q_years ψ l q p (Int32.ofNat k) n s c ρ).2 ∧ ∀ x, ¬ scC b x → f' x = f x := by
  intro n
  induction n with
  | zero =>
    intro j fu f ρ s c hj hfu h hρ hok
    obtain ⟨fu, rfl⟩ : ∃ q, fu = q + 1 := ⟨fu - 1, by omega⟩
    show ∃ f', F_X9_runYears_20b N (F_X9_runYears_20 N fu) b (Int32.ofNat t) q p (Int32.ofNat k) s c (Int32.ofNat j) (axM Z f) = _ ∧ _
    rw [qc_yr20, if_pos (qi_ge (by omega) (by omega))]
    exact ⟨f, rfl, hρ, fun x _ => rfl⟩
  | succ n ih =>
    intro j fu f ρ s c hj hfu h hρ hok
    obtain ⟨fu, rfl⟩ : ∃ q, fu = q + 1 := ⟨fu - 1, by omega⟩
    show ∃ f', F_X9_runYears_20b N (F_X9_runYears_20 N fu) b (Int32.ofNat t) q p (Int32.ofNat k) s c (Int32.ofNat j) (axM Z f) = _ ∧ _
    have hw := h.2.2.1
    rw [q_years_s]
    rw [qc_yr20, if_neg (qi_nge (by omega) (by omega)), qc_yr47, qc_yr47]
    generalize q_next s = s1
    generalize q_next s1 = s2
    have step : ∃ f', (if q_lot s2 < p then F_X9_runYears_116 N (F_X9_runYears_20 N fu) b (Int32.ofNat t) q p (Int32.ofNat k) s2 (c + q_sto q s1) (Int32.ofNat j) (q_sto q s1) (axM Z f) else F_X9_runYears_76 N (F_X9_runYears_20 N fu) N b (Int32.ofNat t) q p (Int32.ofNat k) s2 (c + q_sto q s1) (Int32.ofNat j) (q_sto q s1) 0 (axM Z f)) = F_X9_runYears_20 N fu b (Int32.ofNat t) q p (Int32.ofNat k) s2 (c + q_sto q s1) (Int32.ofNat j + 1) (axM Z f') ∧ rdSt f' (b + 34) = q_night ψ l (q_sto q s1) (q_yp (Int32.ofNat k) (q_yr ψ p s2 ρ)) ∧ ∀ x, ¬ scC b x → f' x = f x := by
      unfold q_yr
      by_cases cp : q_lot s2 < p
      · rw [if_pos cp, if_pos cp]
        exact qc_yr116 hN h hρ (show 999 + j < 2147483000 by omega) hk hok _ _ _ _ _ _ _ _
      · rw [if_neg cp, if_neg cp]
        obtain ⟨nv, n6, en, et⟩ := (q_fw_n hw).1
        exact qc_yr76 hN hw (show 999 + j < 2147483000 by omega) hk hok _ _ _ _ _ _ _ _ (ψ 0 3).toNatClampNeg 0 N f (by omega) (by omega) h hρ
    obtain ⟨f1, e1, g1, fr1⟩ := step
    obtain ⟨f2, e2, g2, fr2⟩ := ih (j + 1) fu f1 (q_night ψ l (q_sto q s1) (q_yp (Int32.ofNat k) (q_yr ψ p s2 ρ))) s2 (c + q_sto q s1) (by omega) (by omega) (h.sc fr1) g1 (q_ok_night l _ hw (show 999 + j < 2147483000 by omega) (q_ok_yp hk (q_ok_yr hw p _ hok)))
    rw [qi_s, e2] at e1
    refine ⟨f2, ?_, g2, fun x hx => by rw [fr2 x hx, fr1 x hx]⟩
    by_cases cq : q ≤ q_lot s1
    · have e0 : q_sto q s1 = 0 := by unfold q_sto; rw [if_neg (Int32.not_lt.mpr cq)]
      rw [e0] at e1
      rw [if_pos cq, e0]
      exact e1
    · have e0 : q_sto q s1 = 1 := by unfold q_sto; rw [if_pos (Int32.not_le.mp cq)]
      rw [e0] at e1
      rw [if_neg cq, e0]
      exact e1
theorem qc_runYears (hN : 200 < N) (h : HC Z b fa sf la sl bo sb f ψ l r) {t k : Nat} (ht : t ≤ 96) (hk : k < 2147483648) (q p s : Int32) : ∃ f', F_X9_runYears N b s (Int32.ofNat t) q p (Int32.ofNat k) (axM Z f) = some ((q_years ψ l q p (Int32.ofNat k) t s 0 r).1, axM Z f') ∧ rdSt f' (b + 34) = (q_years ψ l q p (Int32.ofNat k) t s 0 r).2 ∧ ∀ x, ¬ scC b x → f' x = f x := by
  have h0 := h.1.1.1
  have p8 := h.1.2.2.2.2.2.2.2.1
  have p9 := h.1.2.2.2.2.2.2.2.2.1
  unfold F_X9_runYears
  obtain ⟨f1, e1, g1, fr1⟩ := qc_take_t hN h
  simp only [m_gr h0 p8.1, m_gr h0 p9.1, m_is p9.2.1, e1, axBV_s]
  obtain ⟨f2, e2, g2, fr2⟩ := qc_years_l hN ht hk q p t 0 N f1 r s 0 (by omega) (by omega) (h.sc fr1) g1 (q_ok_mono (by omega) h.2.2.2.2.2.2)
  exact ⟨f2, e2, g2, fun x hx => by rw [fr2 x hx, fr1 x hx]⟩
end
