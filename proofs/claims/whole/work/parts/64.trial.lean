/-! the trial row, on both sides -/
theorem qi_mul (i j : Nat) : Int32.ofNat i * Int32.ofNat j = Int32.ofNat (i * j) := (Int32.ofNat_mul i j).symm
theorem q_maxn {i j : Nat} (hi : i < 2147483648) (hj : j < 2147483648) : q_max (Int32.ofNat i) (Int32.ofNat j) = Int32.ofNat (max i j) := by
  unfold q_max
  by_cases h : i < j
  · rw [if_pos (qi_gt h hj), Nat.max_eq_right (by omega)]
  · rw [if_neg (qi_ngt (by omega) hi), Nat.max_eq_left (by omega)]
theorem q_night_12 (ψ : QF) (l : QL) (st : Int32) (r : QR) : q_night ψ l st r 12 = r 12 := by
  show q_set (q_wakeL ψ (q_str l r st) r (ψ 0 5).toNatClampNeg) 9 (q_wakeL ψ (q_str l r st) r (ψ 0 5).toNatClampNeg 9 + q_str l r st) 12 = r 12
  rw [q_set_n _ _ (by omega), q_wakeL_k ψ _ r (by omega) (by omega)]
theorem q_ok_night {ψ : QF} {B : Nat} {r : QR} (l : QL) (st : Int32) (hw : q_fw ψ) (hB : B < 2147483000) (h : q_ok ψ B r) : q_ok ψ (B + 1) (q_night ψ l st r) := by
  obtain ⟨⟨n, hn, en⟩, h5, h67, hb, ⟨o, ho, eo⟩, ⟨c, hc, ec⟩⟩ := h
  have W : ∀ k, k ≠ 10 → k ≠ 9 → k < 21 → q_set (q_wakeL ψ (q_str l r st) r (ψ 0 5).toNatClampNeg) 9 (q_wakeL ψ (q_str l r st) r (ψ 0 5).toNatClampNeg 9 + q_str l r st) k = r k := fun k h1 h2 h3 => by
    rw [q_set_n _ _ h2, q_wakeL_k ψ _ r h1 h3]
  obtain ⟨nm, n8, enm, etm⟩ := (q_fw_n hw).2.2.1
  obtain ⟨-, ⟨rt, hrt, ert⟩, -, -, hharv⟩ := hw
  unfold q_night q_turn
  generalize hR : q_set (q_wakeL ψ (q_str l r st) r (ψ 0 5).toNatClampNeg) 9 (q_wakeL ψ (q_str l r st) r (ψ 0 5).toNatClampNeg 9 + q_str l r st) = R at W ⊢
  have w0 := W 0 (by omega) (by omega) (by omega)
  have w1 := W 1 (by omega) (by omega) (by omega)
  have w2 := W 2 (by omega) (by omega) (by omega)
  have w6 := W 6 (by omega) (by omega) (by omega)
  have w7 := W 7 (by omega) (by omega) (by omega)
  have hmon : q_mon R = Int32.ofNat (n % 12) := q_mon_n (by rw [w2, en]) (by omega)
  refine ⟨⟨n + 1, by omega, ?_⟩, Or.inl rfl, ?_, fun k hk => ?_, ?_, ?_⟩
  · show R 2 + 1 = _
    rw [w2, en, qi_s]
  · show ((if q_max 0 (R 7 - 1) = 0 then 0 else R 6) = 0 ∧ q_max 0 (R 7 - 1) = 0) ∨ (0 < (if q_max 0 (R 7 - 1) = 0 then 0 else R 6) ∧ ∃ n, n ≤ 7 ∧ 1 ≤ n ∧ q_max 0 (R 7 - 1) = Int32.ofNat n)
    rw [w6, w7]
    rcases h67 with ⟨e6, e7⟩ | ⟨p6, j, j7, j1, e7⟩
    · rw [e7, show q_max 0 ((0 : Int32) - 1) = 0 by decide, if_pos rfl]
      exact Or.inl ⟨rfl, rfl⟩
    · obtain ⟨d1, d2⟩ := q_dn j1 j7
      rw [e7, d2]
      by_cases j0 : j = 1
      · rw [if_pos (by rw [j0]; rfl)]
        exact Or.inl ⟨rfl, by rw [j0]; rfl⟩
      · have z : ¬ Int32.ofNat (j - 1) = 0 := qi_ne (j := 0) (by omega) (by omega) (by omega)
        rw [if_neg z]
        exact Or.inr ⟨p6, j - 1, by omega, by omega, rfl⟩
  · obtain ⟨cc, hcc, ecc⟩ := hb k hk
    refine ⟨cc, hcc, ?_⟩
    show q_t25 ψ (ψ 0 1) _ R (13 + k) = _
    rw [Nat.add_comm]
    show R (k + 13) = _
    rw [W (k + 13) (by omega) (by omega) (by omega), Nat.add_comm, ecc]
  · show ∃ n, n ≤ 99999 ∧ (if q_mon R = 11 then q_min 99999 (R 0 + R 0 * (ψ 0 1) / 100) else R 0) = Int32.ofNat n
    rw [w0, eo]
    by_cases q : q_mon R = 11
    · rw [if_pos q, ert, qi_mul]
      have hp : o * rt ≤ 1999980 := Nat.le_trans (Nat.mul_le_mul ho hrt) (by omega)
      have hq : o * rt / 100 ≤ 1999980 := Nat.le_trans (Nat.div_le_self _ _) hp
      rw [show Int32.ofNat (o * rt) / 100 = Int32.ofNat (o * rt / 100) from qi_div (j := 100) (by omega) (by omega), qi_add]
      refine ⟨min 99999 (o + o * rt / 100), by omega, ?_⟩
      exact q_minn (i := 99999) (by omega) (by omega)
    · rw [if_neg q]
      exact ⟨o, ho, rfl⟩
  · show ∃ n, n ≤ 9999 ∧ q_min 9999 (R 1 + ψ 1 (q_mon R).toNatClampNeg) = Int32.ofNat n
    rw [w1, ec, hmon, qi_tn (by omega)]
    obtain ⟨x, hx, ex⟩ := hharv (n % 12) (by omega)
    rw [ex, qi_add]
    exact ⟨min 9999 (c + x), by omega, q_minn (i := 9999) (by omega) (by omega)⟩
theorem q_ok_pay {ψ : QF} {B : Nat} {r : QR} {n : Nat} (hn : n < 2147483648) (h : q_ok ψ B r) : q_ok ψ B (q_pay (Int32.ofNat n) r) := by
  unfold q_pay
  by_cases c : q_can r (Int32.ofNat n) = true
  · rw [if_pos c]
    obtain ⟨h2, h5, h67, hb, ⟨o, ho, eo⟩, ⟨ch, hc, ec⟩⟩ := h
    unfold q_can at c
    rw [Bool.and_eq_true] at c
    have c1 : Int32.ofNat n ≤ r 1 := of_decide_eq_true c.1
    have c2 : Int32.ofNat n ≤ r 0 := of_decide_eq_true c.2
    rw [ec, qi_le hn (by omega)] at c1
    rw [eo, qi_le hn (by omega)] at c2
    refine ⟨h2, h5, h67, fun k hk => ?_, ⟨o - n, by omega, ?_⟩, ⟨ch - n, by omega, ?_⟩⟩
    · obtain ⟨cc, q1, q2⟩ := hb k hk
      exact ⟨cc, q1, by rw [q_set_n _ _ (by omega), q_set_n _ _ (by omega), q_set_n _ _ (by omega), q2]⟩
    · show r 0 - Int32.ofNat n = _
      rw [eo, qi_sub c2]
    · show r 1 - Int32.ofNat n = _
      rw [ec, qi_sub c1]
  · rw [if_neg c]
    exact h
theorem q_pay_12 (n : Int32) (r : QR) : q_pay n r 12 = r 12 := by
  unfold q_pay
  split
  · rw [q_set_n _ _ (by omega), q_set_n _ _ (by omega), q_set_n _ _ (by omega)]
  · rfl
theorem q_ok_mono {ψ : QF} {B B' : Nat} {r : QR} (hB : B ≤ B') (h : q_ok ψ B r) : q_ok ψ B' r := by
  obtain ⟨⟨n, hn, en⟩, h⟩ := h
  exact ⟨⟨n, by omega, en⟩, h⟩
section
variable {Z : AxS} {f f0 : Nat → Nat → Int32} {b m fa sf la sl bo sb N B : Nat} {ψ : QF} {l : QL} {r ρ : QR}
theorem clLaw.e {g : Nat → Nat → Int32} {a : Nat} (h : clLaw f a l) (h1 : g a = f a) (h2 : g (a + 1) = f (a + 1)) : clLaw g a l := by
  obtain ⟨l1, l2, l3⟩ := h
  exact ⟨by rw [h1]; exact l1, l2, fun k x hx => by rw [h2]; exact l3 k x hx⟩
theorem HC.sc (h : HC Z b fa sf la sl bo sb f0 ψ l r) (hf : ∀ x, ¬ scC b x → f x = f0 x) : HC Z b fa sf la sl bo sb f ψ l r := by
  obtain ⟨hC, hF, hw, hl, hlw, hR, hok⟩ := h
  have dla := hC.2.2.2.1
  have dfa := hC.2.2.1
  have G : ∀ x, ¬ scC b x → f x = f0 x := hf
  unfold scC at G
  refine ⟨hC, ?_, hw, hl.e (G _ (by omega)) (G _ (by omega)), hlw, ?_, hok⟩
  · rw [← hF]
    exact rdF_e (fun x h1 h2 => G x (by omega))
  · rw [← hR]
    exact rdSt_e (G _ (by omega)) (G _ (by omega)) (G _ (by omega))
theorem qc_pass_t (hN : 200 < N) (h : HC Z b fa sf la sl bo sb f ψ l r) (hρ : rdSt f (b + 34) = ρ) (hB : B < 2147483000) (hok : q_ok ψ B ρ) (st : Int32) : ∃ f', F_X9_passNight N b (b + 34) st (axM Z f) = some (q_str l ρ st, axM Z f') ∧ rdSt f' (b + 34) = q_night ψ l st ρ ∧ ∀ x, ¬ scC b x → f' x = f x := by
  obtain ⟨hC, hF, hw, hl, hlw, hR, -⟩ := h
  have hst := hC.2.2.2.2.2.2.2.2.1.2
  have dla := hC.2.2.2.1
  obtain ⟨f', e, g1, g2⟩ := qc_passNight hN hC hst (by omega) hF hw hl hlw (show B < 2147483647 by omega) (by rw [hρ]; exact hok) st
  rw [hρ] at e g1
  exact ⟨f', e, g1, fun x hx => g2 x (by unfold scC at hx; omega) (by unfold scC at hx; omega) (by unfold scC at hx; omega) (by unfold scC at hx; omega)⟩
theorem qc_str_t (hN : 200 < N) (h : HC Z b fa sf la sl bo sb f ψ l r) (hρ : rdSt f (b + 34) = ρ) (st : Int32) : ∃ f', F_X9_strokesOf N b (b + 34) st (axM Z f) = some (q_str l ρ st, axM Z f') ∧ rdSt f' (b + 34) = ρ ∧ ∀ x, ¬ scC b x → f' x = f x := by
  obtain ⟨hC, hF, hw, hl, hlw, hR, -⟩ := h
  have hst := hC.2.2.2.2.2.2.2.2.1.2
  have dla := hC.2.2.2.1
  obtain ⟨f', e, fr⟩ := qc_strokesOf hN hC hst (by omega) hl hlw st
  rw [hρ] at e
  refine ⟨f', e, ?_, fun x hx => fr x (by unfold scC at hx; omega) (by unfold scC at hx; omega)⟩
  rw [← hρ]
  exact rdSt_e (fr _ (by omega) (by omega)) (fr _ (by omega) (by omega)) (fr _ (by omega) (by omega))
theorem qc_take_t (hN : 200 < N) (h : HC Z b fa sf la sl bo sb f ψ l r) : ∃ f', F_X5_take N (b + 34) (b + 31) (axM Z f) = some (axM Z f') ∧ rdSt f' (b + 34) = r ∧ ∀ x, ¬ scC b x → f' x = f x := by
  obtain ⟨hC, hF, hw, hl, hlw, hR, -⟩ := h
  obtain ⟨f', e, g1, g2⟩ := qc_take (N := N) (f := f) (by omega) hC.2.2.2.2.2.2.2.2.1.2 hC.2.2.2.2.2.2.2.1.2 (by omega)
  exact ⟨f', e, by rw [g1, hR], fun x hx => g2 x (by unfold scC at hx; omega) (by unfold scC at hx; omega) (by unfold scC at hx; omega)⟩
theorem qc_pays_t (h : HC Z b fa sf la sl bo sb f ψ l r) (hρ : rdSt f (b + 34) = ρ) (n : Int32) : ∃ f', F_X5_pays N (b + 34) n (axM Z f) = some (if q_can ρ n = true then 1 else 0, axM Z f') ∧ rdSt f' (b + 34) = q_pay n ρ ∧ ∀ x, ¬ scC b x → f' x = f x := by
  obtain ⟨f', e, g1, g2⟩ := qc_pays (f := f) N n h.1.2.2.2.2.2.2.2.2.1.2
  rw [hρ] at e g1
  exact ⟨f', e, g1, fun x hx => g2 x (by unfold scC at hx; omega)⟩
theorem HM.sc (h : HM Z m f0 ψ l r) (hf : ∀ x, ¬ scM m x → f x = f0 x) : HM Z m f ψ l r := by
  obtain ⟨hm, hG, hw, ⟨l1, l2, l3⟩, hlw, hR, hok, h12⟩ := h
  have G : ∀ x, ¬ scM m x → f x = f0 x := hf
  unfold scM at G
  refine ⟨hm, ?_, hw, ⟨?_, l2, fun k q hq => ?_⟩, hlw, ?_, hok, h12⟩
  · rw [← hG]
    exact rdG_e (fun x h1 h2 => G x (by omega))
  · rw [G m (by omega)]
    exact l1
  · have := (List.getElem?_eq_some_iff.mp hq).1
    rw [G _ (by omega)]
    exact l3 k q hq
  · rw [← hR]
    exact rdM_e (fun j _ => by rw [G _ (by omega)])
theorem HM.s441 (h : HM Z m f ψ l r) : axP Z m 28 = some (m + 441) ∧ axL Z (m + 441) = some (1, 29) ∧ axP Z m 27 = some (m + 440) ∧ axL Z (m + 440) = some (1, 29) := ⟨h.1.2.1 28 441 rfl, h.1.2.2.1 441 _ rfl, h.1.2.1 27 440 rfl, h.1.2.2.1 440 _ rfl⟩
theorem qm_night_t (hN : 200 < N) (h : HM Z m f ψ l r) (hρ : rdM f (m + 441) = ρ) (hB : B < 2147483000) (hok : q_ok ψ B ρ) : ∃ f', F_X10_nightEnds N m (m + 441) (axM Z f) = some (axM Z f') ∧ rdM f' (m + 441) = q_night ψ l (ρ 12) ρ ∧ ∀ x, ¬ scM m x → f' x = f x := by
  have s := h.s441
  obtain ⟨hm, hG, hw, hl, hlw, hR, -⟩ := h
  obtain ⟨f', e, g1, g2⟩ := qm_nightEnds hN hm s.2.1 (by omega) hG hw hl hlw (show B < 2147483647 by omega) (by rw [hρ]; exact hok)
  rw [hρ] at g1
  exact ⟨f', e, g1, fun x hx => g2 x (by unfold scM at hx; omega) (by unfold scM at hx; omega) (by unfold scM at hx; omega)⟩
theorem qm_str_t (hN : 200 < N) (h : HM Z m f ψ l r) (hρ : rdM f (m + 441) = ρ) : ∃ f', F_X10_strokesOf N m (m + 441) (axM Z f) = some (q_str l ρ (ρ 12), axM Z f') ∧ rdM f' (m + 441) = ρ ∧ ∀ x, ¬ scM m x → f' x = f x := by
  have s := h.s441
  obtain ⟨hm, hG, hw, hl, hlw, hR, -⟩ := h
  obtain ⟨f', e, fr⟩ := qm_strokesOf hN hm s.2.1 (by omega) hl hlw
  rw [hρ] at e
  refine ⟨f', e, ?_, fun x hx => fr x (by unfold scM at hx; omega) (by unfold scM at hx; omega)⟩
  rw [← hρ]
  exact rdM_e (fun j _ => by rw [fr _ (by omega) (by omega)])
theorem qm_copies_l {a o : Nat} (ha : axL Z a = some (1, 29)) (ho : axL Z o = some (1, 29)) (hd : a ≠ o) : ∀ (n j fu : Nat) (f : Nat → Nat → Int32), j + n = 29 → n < fu → ∃ f', F_X10_copies_2 N fu o a (Int32.ofNat j) (axM Z f) = some (axM Z f') ∧ (∀ x, x ≠ a → f' x = f x) ∧ ∀ k, k < 29 → f' a k = if j ≤ k then f o k else f a k := by
  intro n
  induction n with
  | zero =>
    intro j fu f hj hfu
    obtain ⟨fu, rfl⟩ : ∃ q, fu = q + 1 := ⟨fu - 1, by omega⟩
    show ∃ f', F_X10_copies_2b N (F_X10_copies_2 N fu) o a (Int32.ofNat j) (axM Z f) = _ ∧ _
    unfold F_X10_copies_2b
    rw [if_pos (show (29 : Int32) ≤ Int32.ofNat j from qi_ge (i := 29) (by omega) (by omega))]
    exact ⟨f, rfl, fun x _ => rfl, fun k hk => by rw [if_neg (by omega)]⟩
  | succ n ih =>
    intro j fu f hj hfu
    obtain ⟨fu, rfl⟩ : ∃ q, fu = q + 1 := ⟨fu - 1, by omega⟩
    show ∃ f', F_X10_copies_2b N (F_X10_copies_2 N fu) o a (Int32.ofNat j) (axM Z f) = _ ∧ _
    unfold F_X10_copies_2b
    rw [if_neg (show ¬ (29 : Int32) ≤ Int32.ofNat j from qi_nge (i := 29) (by omega) (by omega))]
    simp only [m_ldn ho (show j < 29 by omega) (by omega), m_stn ha (show j < 29 by omega) (by omega), qi_s]
    obtain ⟨f', e, g1, g2⟩ := ih (j + 1) fu (ax2 f a j (f o j)) (by omega) (by omega)
    refine ⟨f', e, fun x hx => by rw [g1 x hx, ax2_n _ _ _ _ hx], fun k hk => ?_⟩
    rw [g2 k hk, ax2_n _ _ _ _ (Ne.symm hd), ax2_a]
    by_cases e1 : j + 1 ≤ k
    · rw [if_pos e1, if_pos (by omega)]
    · rw [if_neg e1]
      by_cases e2 : k = j
      · rw [if_pos e2, if_pos (by omega), e2]
      · rw [if_neg e2, if_neg (by omega)]
theorem qm_copies {a o : Nat} (hN : 200 < N) (ha : axL Z a = some (1, 29)) (ho : axL Z o = some (1, 29)) (hd : a ≠ o) : ∃ f', F_X10_copies N o a (axM Z f) = some (axM Z f') ∧ rdM f' a = rdM f o ∧ ∀ x, x ≠ a → f' x = f x := by
  obtain ⟨f', e, g1, g2⟩ := qm_copies_l (N := N) ha ho hd 29 0 N f (by omega) (by omega)
  exact ⟨f', e, rdM_e (fun k hk => by rw [g2 k hk, if_pos (Nat.zero_le _)]), g1⟩
theorem qm_copies_t (hN : 200 < N) (h : HM Z m f ψ l r) : ∃ f', F_X10_copies N (m + 440) (m + 441) (axM Z f) = some (axM Z f') ∧ rdM f' (m + 441) = r ∧ ∀ x, ¬ scM m x → f' x = f x := by
  have s := h.s441
  obtain ⟨f', e, g1, g2⟩ := qm_copies (f := f) hN s.2.1 s.2.2.2 (by omega)
  exact ⟨f', e, by rw [g1, h.2.2.2.2.2.1], fun x hx => g2 x (by unfold scM at hx; omega)⟩
theorem qm_pays {a : Nat} (ha : axL Z a = some (1, 29)) (n : Int32) : ∃ f', F_X10_pays N a n (axM Z f) = some (if q_can (rdM f a) n = true then 1 else 0, axM Z f') ∧ rdM f' a = q_pay n (rdM f a) ∧ ∀ x, x ≠ a → f' x = f x := by
  have r0 : f a 0 = rdM f a 0 := rdM_k f a (by omega)
  have r1 : f a 1 = rdM f a 1 := rdM_k f a (by omega)
  have r4 : f a 4 = rdM f a 4 := rdM_k f a (by omega)
  unfold F_X10_pays
  simp only [m_ld29_0 ha, m_ld29_1 ha, m_ld29_4 ha, m_st29_0 ha, m_st29_1 ha, m_st29_4 ha, m_rz0, m_rz1, ax2_a, Nat.reduceEqDiff, ↓reduceIte, q_can, q_pay, Bool.and_eq_true, decide_eq_true_eq, r0, r1, r4]
  by_cases c1 : rdM f a 1 < n
  · have c3 : ¬ (n ≤ rdM f a 1 ∧ n ≤ rdM f a 0) := fun q => Int32.not_lt.mpr q.1 c1
    rw [if_pos c1]
    exact ⟨f, by rw [if_neg c3], by rw [if_neg c3], fun x hx => rfl⟩
  · rw [if_neg c1]
    by_cases c2 : n ≤ rdM f a 0
    · have c3 : n ≤ rdM f a 1 ∧ n ≤ rdM f a 0 := ⟨Int32.not_lt.mp c1, c2⟩
      rw [if_pos c2]
      refine ⟨_, by rw [if_pos c3], ?_, fun x hx => by simp only [ax2_n _ _ _ _ hx]⟩
      rw [if_pos c3, rdM_w _ _ _ (by omega), rdM_w _ _ _ (by omega), rdM_w _ _ _ (by omega)]
    · have c3 : ¬ (n ≤ rdM f a 1 ∧ n ≤ rdM f a 0) := fun q => c2 q.2
      rw [if_neg c2]
      exact ⟨f, by rw [if_neg c3], by rw [if_neg c3], fun x hx => rfl⟩
theorem qm_pays_t (h : HM Z m f ψ l r) (hρ : rdM f (m + 441) = ρ) (n : Int32) : ∃ f', F_X10_pays N (m + 441) n (axM Z f) = some (if q_can ρ n = true then 1 else 0, axM Z f') ∧ rdM f' (m + 441) = q_pay n ρ ∧ ∀ x, ¬ scM m x → f' x = f x := by
  obtain ⟨f', e, g1, g2⟩ := qm_pays (N := N) (f := f) h.s441.2.1 n
  rw [hρ] at e g1
  exact ⟨f', e, g1, fun x hx => g2 x (by unfold scM at hx; omega)⟩
end
