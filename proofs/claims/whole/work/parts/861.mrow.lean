/-! steps: the model reads a row of them -/
section
variable {Z : AxS} {m N n p op s : Nat} {g g0 : Nat → Nat → Int32} {t : QR} {pl : Int32} {ψ : QF} {acc : List QE} {kr : Nat → AxS → Option AxS} {krp : Nat → Nat → QO5}
def MKs (Z : AxS) (m : Nat) (t : QR) (n : Nat) (pl : Int32) (ψ : QF) (op : Nat) (F : AxS → Option AxS) (P : Nat → Nat → QO5) : Prop := ∀ (s : Nat) (acc : List QE) (g0 g : Nat → Nat → Int32), q_bl t n s = s → MT g m t n s 0 pl → SMl g m acc → 2 * acc.length ≤ s → g m 8 = Int32.ofNat op → g0 (m + 4) 0 = ψ 0 3 → g0 (m + 4) 2 = ψ 0 5 → TMr m g0 g → QMs5 Z m t n pl op acc g0 (F (axM Z g)) (P acc.length s)
/-- the row's end: the loop's answer -/
def QMr (Z : AxS) (m : Nat) (t : QR) (n : Nat) (pl : Int32) (op : Nat) (acc : List QE) (g : Nat → Nat → Int32) (r : Option AxS) (K : AxS → Option AxS) (o : QO5) : Prop := match o with
  | .inl z => ∃ g' q, r = K (axM Z g') ∧ MT g' m t n q z.1 z.2 ∧ z.1 ≠ 0 ∧ TMr m g g'
  | .inr z => ∃ g', r = K (axM Z g') ∧ MT g' m t n z.2 0 pl ∧ SMl g' m (acc ++ z.1) ∧ g' m 8 = Int32.ofNat op ∧ TMr m g g'
theorem qm_row_l (hN : 2000 < N) (hm : LMo Z m) (hn : n ≤ 150) {stp : Nat → Nat → QO5} (hk : MKs Z m t n pl ψ op (kr m) stp) (hkf : ∀ len p, p ≤ n → q_sft op len p n (stp len p)) (h1 : ∀ len p z, stp len p = .inr z → 1 ≤ z.1.length) (v2 : Nat) (h3 : g0 (m + 4) 0 = ψ 0 3) (h5 : g0 (m + 4) 2 = ψ 0 5) : ∀ (k p fu : Nat) (acc : List QE) (g : Nat → Nat → Int32), n < 2 * k + p → k + 1 < fu → p ≤ n → MT g m t n (q_bl t n p) 0 pl → SMl g m acc → 2 * acc.length ≤ p → g m 8 = Int32.ofNat op → TMr m g0 g → QMr Z m t n pl op acc g0 (F_X10_readsStep_173 N kr fu m v2 (axM Z g)) (F_X10_readsStep_204 N kr m v2) (q_row stp t n 93 k acc.length p) := by
  have h0 := hm.1
  intro k
  induction k with
  | zero =>
    intro p fu acc g hi hfu hpn h hL ha h8 hr
    omega
  | succ k ih =>
    intro p fu acc g hi hfu hpn h hL ha h8 hr
    obtain ⟨fu, rfl⟩ : ∃ q, fu = q + 1 := ⟨fu - 1, by omega⟩
    obtain ⟨hb1, hb2, -⟩ := q_skp_b q_isB t hpn
    change p ≤ q_bl t n p at hb1
    change q_bl t n p ≤ n at hb2
    have hss : q_bl t n (q_bl t n p) = q_bl t n p := q_skp_i q_isB t hpn
    show QMr Z m t n pl op acc g0 (F_X10_readsStep_173b N kr (F_X10_readsStep_173 N kr fu) m v2 (axM Z g)) _ _
    unfold F_X10_readsStep_173b q_row
    rw [m_gi h0, h.2.2.1, if_pos rfl, m_gi h0, h.2.1, m_is h0, qm_byteAt hm h _ (by omega), axB_s]
    by_cases c : q_B t n (q_bl t n p) = 93
    · rw [if_pos c, if_pos c]
      exact ⟨g, rfl, h, by rw [List.append_nil]; exact hL, h8, hr⟩
    rw [if_neg c, if_neg c, m_is h0]
    have S := hk (q_bl t n p) acc g0 g hss h hL (by omega) h8 h3 h5 hr
    have SF := hkf acc.length (q_bl t n p) hb2
    rcases e2 : stp acc.length (q_bl t n p) with z | a
    · rw [e2] at S
      obtain ⟨g2, q, x2, y2, r2⟩ := S
      obtain ⟨g3, x3, y3, fr3⟩ := qm_blanks hN hm y2
      have hz := SF.1 z e2
      obtain ⟨fu, rfl⟩ : ∃ q, fu = q + 1 := ⟨fu - 1, by omega⟩
      rw [q_bd_l rfl, x2, axBV_s, m_is h0, x3, axBV_s]
      refine ⟨g3, _, ?_, y3, hz, r2.tr fr3.tm⟩
      show F_X10_readsStep_173b N kr (F_X10_readsStep_173 N kr fu) m v2 (axM Z g3) = _
      unfold F_X10_readsStep_173b
      rw [m_gi h0, y3.2.2.1, if_neg hz]
    rw [e2] at S
    obtain ⟨g2, x2, y2, L2, h82, r2⟩ := S
    obtain ⟨a1, a2, -⟩ := SF.2 a e2
    have a0 := h1 _ _ _ e2
    obtain ⟨g3, x3, y3, fr3⟩ := qm_blanks hN hm y2
    rw [q_bd_r rfl, x2, axBV_s, m_is h0, x3, axBV_s]
    have I := ih a.2 fu (acc ++ a.1) g3 (by omega) (by omega) a2 y3 (fr3.sm L2) (by rw [List.length_append]; omega) (fr3.f8 h82) (r2.tr fr3.tm)
    rw [List.length_append] at I
    rcases e5 : q_row stp t n 93 k (acc.length + a.1.length) a.2 with z | y
    · rw [e5] at I
      rw [q_bd_l rfl]
      exact I
    · rw [e5] at I
      rw [q_bd_r rfl]
      obtain ⟨g5, x5, y5, l5, h85, r5⟩ := I
      refine ⟨g5, x5, y5, ?_, h85, r5⟩
      rw [List.append_assoc] at l5
      exact l5
/-- as the row behind '[' is read: from q_bl on -/
theorem qm_step {stp : Nat → Nat → QO5} (hN : 2000 < N) (hm : LMo Z m) (hn : n ≤ 150) (ho : op ≤ 6) (hk : op < 6 → MKs Z m t n pl ψ (op + 1) (kr m) stp) (hkf : op < 6 → ∀ len p, p ≤ n → q_sft (op + 1) len p n (stp len p)) (h1 : ∀ len p z, stp len p = .inr z → 1 ≤ z.1.length) (hkr : op < 6 → ∀ len p, krp len p = q_row stp t n 93 150 len p) : MKs Z m t n pl ψ op (F_X10_readsStep N kr m) (fun len s => q_stp krp t n ψ op len s) := by
  intro s acc g0 g hss h hL ha h8 h3 h5 hr
  have h0 := hm.1
  have hsn := h.2.2.2.2.2.2
  obtain ⟨g1, e1, x1, fr1⟩ := qm_shere hN hm h hss
  have hle := (q_skp_b q_isL t hsn).1
  change s ≤ q_wrl t n s at hle
  have hwn := (q_skp_b q_isL t hsn).2.1
  change q_wrl t n s ≤ n at hwn
  have p25 : axP Z m 25 = some (m + 359) := hm.2.1 25 359 rfl
  have s25 : axL Z (m + 359) = some (3, 80) := hm.2.2.1 359 _ rfl
  obtain ⟨pr, sr⟩ : axP Z (m + 359) acc.length = some (m + 360 + acc.length) ∧ axL Z (m + 360 + acc.length) = some (1, 4) := hm.2.2.2 359 80 4 rfl acc.length (by omega)
  show QMs5 Z m t n pl op acc g0 _ (q_stp krp t n ψ op acc.length s)
  unfold F_X10_readsStep q_stp
  rw [m_is h0, e1, axB_s]
  rcases q_kd_b t s (q_wrl t n s) with c7 | ⟨c7, cw⟩
  · obtain ⟨g2, e2, x2, fr2⟩ := qm_wrong (N := N) h0 x1 1 (Int32.ofNat s)
    rw [if_pos rfl, if_pos rfl] at x2
    unfold F_X10_readsStep_19 F_X10_readsStep_33
    rw [if_pos c7, if_pos c7, if_pos rfl, m_gi h0, x1.2.1, m_is h0, e2, axBV_s, if_neg (show ¬ (-1 : Int32) = 6 by decide), m_gi h0, x2.2.2.1, if_neg (show ¬ (1 : Int32) = 0 by decide)]
    exact ⟨g2, s, rfl, x2, hr.tr (fr1.tr fr2).tm⟩
  rw [if_neg (show ¬ q_kd t s (q_wrl t n s) = 7 by omega), if_neg (show ¬ q_kd t s (q_wrl t n s) = 7 by omega), if_neg (show ¬ Int32.ofNat (q_kd t s (q_wrl t n s)) = -1 from q_nm1 (by omega))]
  generalize hk9 : q_kd t s (q_wrl t n s) = k at c7 cw ⊢
  have hlt : s < q_wrl t n s := q_isw_l hsn (q_U_len k c7) cw
  have k6i : (Int32.ofNat k = 6) ↔ k = 6 := by
    rw [show (6 : Int32) = Int32.ofNat 6 from rfl, qi_eq (by omega) (by omega)]
  have hNF := q_nu_f (t := t) (ψ := ψ) (k := k) hwn
  -- what lies behind the opening
  have body : ∀ (op2 : Nat) (gg : Nat → Nat → Int32), ((k = 6 ∧ op < 6 ∧ op2 = op + 1) ∨ (k ≠ 6 ∧ op2 = op)) → MT gg m t n s 0 pl → SMl gg m acc → gg m 8 = Int32.ofNat op2 → TMr m g0 gg → QMs5 Z m t n pl op acc g0 (F_X10_readsStep_33 N kr m (Int32.ofNat k) (axM Z gg)) (q_bd (q_nu t n ψ k (q_wrl t n s)) fun v => if k = 6 then q_bd (q_tk t n 91 v.2.2) fun p2 => q_bd (krp (acc.length + 1) p2) fun C => q_bd (q_tk t n 93 C.2) fun p3 => q_bd (q_tk t n 59 p3) fun p4 => .inr ((6, v.1, 0, some (acc.length + 1 + C.1.length)) :: C.1, p4) else q_bd (q_tk t n 59 v.2.2) fun p4 => .inr ([(k, v.1, v.2.1, some (acc.length + 1))], p4)) := by
    intro op2 gg hop x2 L2 h82 r2
    obtain ⟨g3, e3, x3, fr3⟩ := qm_skip hN hm x2
    have L3 := fr3.sm L2
    have h83 := fr3.f8 h82
    have x4 : MT (ax2 (ax2 g3 m 26 (Int32.ofNat (acc.length + 1))) (m + 360 + acc.length) 0 (Int32.ofNat k)) m t n (q_wrl t n s) 0 pl := MT.n (MT.j x3 (by omega)) (by omega) (by omega)
    have r4 : TMr m g0 (ax2 (ax2 g3 m 26 (Int32.ofNat (acc.length + 1))) (m + 360 + acc.length) 0 (Int32.ofNat k)) := (r2.tr fr3.tm).tr (TMr.tr ⟨fun x a _ => ax2_n _ _ _ _ a, fun j _ _ _ _ d => ax2_j _ _ _ _ _ d⟩ (TMr.row _ _ _ (by omega)))
    have NU := qm_snums (kr := kr) (k := k) (i := acc.length) (ψ := ψ) c7 hN hm (by rw [r4.1 _ (by omega) (by omega), h3]) (by rw [r4.1 _ (by omega) (by omega), h5]) (by omega) x4 (ax2_k _ _ _ _)
    unfold F_X10_readsStep_33
    rw [m_gi h0, x2.2.2.1, if_pos rfl, m_is h0, e3, axBV_s, m_gr h0 p25, m_gi h0, L3.1, m_ldrn (t := 0) s25 (by omega) (by omega) (by omega) pr, m_gi h0, L3.1, m_pi h0, qi_s, m_stk_0 sr (by omega)]
    have g4_8 : ax2 (ax2 g3 m 26 (Int32.ofNat (acc.length + 1))) (m + 360 + acc.length) 0 (Int32.ofNat k) m 8 = Int32.ofNat op2 := by
      rw [ax2_n _ _ _ _ (by omega), ax2_j _ _ _ _ _ (by omega), h83]
    have g4_26 : ax2 (ax2 g3 m 26 (Int32.ofNat (acc.length + 1))) (m + 360 + acc.length) 0 (Int32.ofNat k) m 26 = Int32.ofNat (acc.length + 1) := by
      rw [ax2_n _ _ _ _ (by omega), ax2_k]
    have g4_r : ∀ i, i < acc.length → ax2 (ax2 g3 m 26 (Int32.ofNat (acc.length + 1))) (m + 360 + acc.length) 0 (Int32.ofNat k) (m + 360 + i) = g3 (m + 360 + i) := fun i hi => by
      rw [ax2_n _ _ _ _ (by omega), ax2_n _ _ _ _ (by omega)]
    have e220 : ∀ (g : Nat → Nat → Int32) (q : Nat) (z : Int32 × Int32), MT g m t n q z.1 z.2 → z.1 ≠ 0 → TMr m g0 g → QMs5 Z m t n pl op acc g0 (F_X10_readsStep_220 N kr m (m + 360 + acc.length) (axM Z g)) (.inl z) := fun g q z hg hz hr => by
      unfold F_X10_readsStep_220
      rw [m_gi h0, m_stk_3 sr (by omega), m_is h0, qm_signd h0 _ (by rw [ax2_n _ _ _ _ (by omega), hg.2.2.1]; exact hz), axBV_s]
      exact ⟨_, q, rfl, hg.n (by omega) (by omega), hr.tr (TMr.row _ _ _ (by omega))⟩
    have e204 : ∀ (g : Nat → Nat → Int32) (q : Nat) (z : Int32 × Int32), MT g m t n q z.1 z.2 → z.1 ≠ 0 → TMr m g0 g → QMs5 Z m t n pl op acc g0 (F_X10_readsStep_204 N kr m (m + 360 + acc.length) (axM Z g)) (.inl z) := fun g q z hg hz hr => by
      unfold F_X10_readsStep_204
      rw [m_is h0, qm_signd h0 _ (by rw [hg.2.2.1]; exact hz), axBV_s, m_gi h0, m_pi h0]
      exact e220 _ q z (hg.j (by omega)) hz (hr.tr (TMr.f8 _ _))
    have e173 : ∀ (g : Nat → Nat → Int32) (q : Nat) (z : Int32 × Int32), MT g m t n q z.1 z.2 → z.1 ≠ 0 → TMr m g0 g → QMs5 Z m t n pl op acc g0 (F_X10_readsStep_173 N kr N m (m + 360 + acc.length) (axM Z g)) (.inl z) := fun g q z hg hz hr => by
      obtain ⟨M, hM⟩ : ∃ M, N = M + 1 := ⟨N - 1, by omega⟩
      have e : F_X10_readsStep_173 N kr N m (m + 360 + acc.length) (axM Z g) = F_X10_readsStep_204 N kr m (m + 360 + acc.length) (axM Z g) := by
        rw [show F_X10_readsStep_173 N kr N m (m + 360 + acc.length) (axM Z g) = F_X10_readsStep_173 N kr (M + 1) m (m + 360 + acc.length) (axM Z g) by rw [← hM]]
        show F_X10_readsStep_173b N kr (F_X10_readsStep_173 N kr M) m (m + 360 + acc.length) (axM Z g) = _
        unfold F_X10_readsStep_173b
        rw [m_gi h0, hg.2.2.1, if_neg hz]
      rw [e]
      exact e204 g q z hg hz hr
    rcases e5 : q_nu t n ψ k (q_wrl t n s) with z | v
    · obtain ⟨g5, q, y5, x5, s5⟩ := NU.2 z e5
      have hz := hNF.1 z e5
      have r5 := r4.tr (s5.tm (by omega))
      rw [q_bd_l rfl, y5]
      unfold q_Tl
      by_cases k6 : k = 6
      · unfold q_A6
        obtain ⟨g6, y6, x6, fr6⟩ := qm_blanks hN hm x5
        rw [if_pos k6, m_is h0, qm_signd h0 _ (by rw [x5.2.2.1]; exact hz), axBV_s, m_is h0, y6, axBV_s]
        exact e173 g6 _ z x6 hz (r5.tr fr6.tm)
      · rw [if_neg k6]
        exact e220 g5 q z x5 hz r5
    obtain ⟨g5, y5, x5, en, s5⟩ := NU.1 v e5
    obtain ⟨v1, v2, -⟩ := hNF.2 v e5
    have r5 := r4.tr (s5.tm (by omega))
    have g5_8 : g5 m 8 = Int32.ofNat op2 := by rw [s5.2 8 (by omega) (by omega) (by omega), g4_8]
    have g5_26 : g5 m 26 = Int32.ofNat (acc.length + 1) := by rw [s5.2 26 (by omega) (by omega) (by omega), g4_26]
    have g5_r : ∀ i, i < acc.length → g5 (m + 360 + i) = g3 (m + 360 + i) := fun i hi => by rw [s5.1 _ (by omega) (by omega), g4_r i hi]
    rw [q_bd_r rfl, y5]
    unfold q_Tl
    by_cases k6 : k = 6
    · obtain ⟨-, o6, rfl⟩ : k = 6 ∧ op < 6 ∧ op2 = op + 1 := by omega
      subst k6
      have hk := hk o6
      have hkf := hkf o6
      have L5 : SMl g5 m (acc ++ [(6, v.1, 0, none)]) := SMl.add L3.2 g5_r g5_26 ⟨en.1, en.2.1, fun q => absurd q (by show ¬ (6 : Nat) = 4; omega), fun e he => (by cases he)⟩
      have hl9 : (acc ++ [((6 : Nat), v.1, 0, none)]).length = acc.length + 1 := by
        rw [List.length_append]
        rfl
      unfold q_A6
      rw [if_pos rfl, if_pos rfl, m_is h0]
      have T1 := qm_tkn hN hm x5 (c := 91) (by decide)
      rcases e6 : q_tk t n 91 v.2.2 with z | p2
      · obtain ⟨g6, q, y6, x6, fr6⟩ := T1.1 z e6
        obtain ⟨g7, y7, x7, fr7⟩ := qm_blanks hN hm x6
        rw [q_bd_l rfl, y6, axBV_s, m_is h0, y7, axBV_s]
        exact e173 g7 _ z x7 ((q_tk_f (by decide) v2).1 z e6) (r5.tr (fr6.tr fr7).tm)
      obtain ⟨g6, y6, x6, fr6⟩ := T1.2 p2 e6
      obtain ⟨a1, a2⟩ := (q_tk_f (by decide) v2).2 p2 e6
      obtain ⟨g7, y7, x7, fr7⟩ := qm_blanks hN hm x6
      have fr67 := fr6.tr fr7
      rw [q_bd_r rfl, y6, axBV_s, m_is h0, y7, axBV_s, hkr o6]
      have R := qm_row_l (kr := kr) hN hm hn hk hkf h1 (m + 360 + acc.length) h3 h5 150 p2 N (acc ++ [(6, v.1, 0, none)]) g7 (by omega) (by omega) a2 x7 (fr67.sm L5) (by rw [hl9]; omega) (fr67.f8 g5_8) (r5.tr fr67.tm)
      rw [hl9] at R
      have RF := q_row_f (t := t) (un := 93) hkf 150 (acc.length + 1) p2 a2
      rcases e8 : q_row stp t n 93 150 (acc.length + 1) p2 with z | C
      · rw [e8] at R
        obtain ⟨g8, q, y8, x8, hz, r8⟩ := R
        rw [q_bd_l rfl, y8]
        exact e204 g8 q z x8 hz r8
      rw [e8] at R
      obtain ⟨g8, y8, x8, L8, h88, r8⟩ := R
      obtain ⟨b1, b2, -⟩ := RF.2 C e8
      rw [q_bd_r rfl, y8]
      unfold F_X10_readsStep_204
      rw [m_is h0]
      have T2 := qm_tkn hN hm x8 (c := 93) (by decide)
      rcases e9 : q_tk t n 93 C.2 with z | p3
      · obtain ⟨g9, q, y9, x9, fr9⟩ := T2.1 z e9
        rw [q_bd_l rfl, y9, axBV_s, m_gi h0, m_pi h0]
        exact e220 _ q z (x9.j (by omega)) ((q_tk_f (by decide) b2).1 z e9) ((r8.tr fr9.tm).tr (TMr.f8 _ _))
      obtain ⟨g9, y9, x9, fr9⟩ := T2.2 p3 e9
      have L9 := fr9.sm L8
      have l26 : g9 m 26 = Int32.ofNat (acc.length + 1 + C.1.length) := by
        rw [L9.1, List.length_append, hl9]
      unfold F_X10_readsStep_220
      rw [q_bd_r rfl, y9, axBV_s, m_gi h0, fr9.f8 h88, m_pi h0, qi_m2 (by omega), Nat.add_sub_cancel, m_gi h0, ax2_j _ _ _ _ _ (show (26 : Nat) ≠ 8 by omega), l26, m_stk_3 sr (by omega), m_is h0]
      have L8' : SMl (ax2 g9 m 8 (Int32.ofNat op)) m (acc ++ [(6, v.1, 0, none)] ++ C.1) := ⟨by rw [ax2_j _ _ _ _ _ (by omega)]; exact L9.1, fun i y hy => by
        have := L9.2 i y hy
        unfold SEm at this ⊢
        rw [ax2_n _ _ _ _ (by omega)]
        exact this⟩
      have L10 := L8'.fill (e := acc.length + 1 + C.1.length) rfl
      have x10 : MT (ax2 (ax2 g9 m 8 (Int32.ofNat op)) (m + 360 + acc.length) 3 (Int32.ofNat (acc.length + 1 + C.1.length))) m t n p3 0 pl := MT.n (MT.j x9 (by omega)) (by omega) (by omega)
      have r10 : TMr m g0 (ax2 (ax2 g9 m 8 (Int32.ofNat op)) (m + 360 + acc.length) 3 (Int32.ofNat (acc.length + 1 + C.1.length))) := ((r8.tr fr9.tm).tr (TMr.f8 _ _)).tr (TMr.row _ _ _ (by omega))
      have h810 : ax2 (ax2 g9 m 8 (Int32.ofNat op)) (m + 360 + acc.length) 3 (Int32.ofNat (acc.length + 1 + C.1.length)) m 8 = Int32.ofNat op := by
        rw [ax2_n _ _ _ _ (by omega), ax2_k]
      have T3 := qm_tkn hN hm x10 (c := 59) (by decide)
      rcases ea : q_tk t n 59 p3 with z | p4
      · obtain ⟨g11, q, y11, x11, fr11⟩ := T3.1 z ea
        rw [q_bd_l rfl, y11, axBV_s]
        exact ⟨g11, q, rfl, x11, r10.tr fr11.tm⟩
      · obtain ⟨g11, y11, x11, fr11⟩ := T3.2 p4 ea
        rw [q_bd_r rfl, y11, axBV_s]
        exact ⟨g11, rfl, x11, fr11.sm L10, fr11.f8 h810, r10.tr fr11.tm⟩
    · obtain ⟨-, rfl⟩ : k ≠ 6 ∧ op2 = op := by omega
      unfold F_X10_readsStep_220
      rw [if_neg k6, if_neg k6, m_gi h0, g5_26, m_stk_3 sr (by omega), m_is h0]
      have L5 : SMl (ax2 g5 (m + 360 + acc.length) 3 (Int32.ofNat (acc.length + 1))) m (acc ++ [(k, v.1, v.2.1, some (acc.length + 1))]) := SMl.add L3.2 (fun i hi => by rw [ax2_n _ _ _ _ (by omega), g5_r i hi]) (by rw [ax2_n _ _ _ _ (by omega), g5_26]) ⟨by rw [ax2_j _ _ _ _ _ (by omega)]; exact en.1, fun a b => by rw [ax2_j _ _ _ _ _ (by omega)]; exact en.2.1 a b, fun a => by rw [ax2_j _ _ _ _ _ (by omega)]; exact en.2.2.1 a, fun e he => by rw [ax2_k, ← Option.some.inj he]⟩
      have x6 : MT (ax2 g5 (m + 360 + acc.length) 3 (Int32.ofNat (acc.length + 1))) m t n v.2.2 0 pl := x5.n (by omega) (by omega)
      have r6 := r5.tr (TMr.row g5 3 (Int32.ofNat (acc.length + 1)) (show acc.length < 80 by omega))
      have h86 : ax2 g5 (m + 360 + acc.length) 3 (Int32.ofNat (acc.length + 1)) m 8 = Int32.ofNat op2 := by
        rw [ax2_n _ _ _ _ (by omega), g5_8]
      have T3 := qm_tkn hN hm x6 (c := 59) (by decide)
      rcases ea : q_tk t n 59 v.2.2 with z | p4
      · obtain ⟨g11, q, y11, x11, fr11⟩ := T3.1 z ea
        rw [q_bd_l rfl, y11, axBV_s]
        exact ⟨g11, q, rfl, x11, r6.tr fr11.tm⟩
      · obtain ⟨g11, y11, x11, fr11⟩ := T3.2 p4 ea
        rw [q_bd_r rfl, y11, axBV_s]
        exact ⟨g11, rfl, x11, fr11.sm L5, fr11.f8 h86, r6.tr fr11.tm⟩
  have f1 := hr.tr fr1.tm
  unfold F_X10_readsStep_19
  by_cases k6 : k = 6
  · rw [if_pos (k6i.mpr k6), m_is h0]
    have O := qm_opens (N := N) hm ho x1 (fr1.f8 h8)
    by_cases c6 : 6 ≤ op
    · obtain ⟨g2, e2, x2, fr2⟩ := O.1 c6
      rw [if_pos ⟨k6, c6⟩, e2, axB_s, if_pos rfl]
      exact ⟨g2, s, rfl, x2, f1.tr fr2.tm⟩
    · rw [if_neg (fun q => c6 q.2), O.2 (by omega), axB_s, if_neg (show ¬ (1 : Int32) = 0 by decide)]
      have L1 := fr1.sm hL
      refine body (op + 1) _ (Or.inl ⟨k6, by omega, rfl⟩) (x1.j (by omega)) ⟨by rw [ax2_j _ _ _ _ _ (by omega)]; exact L1.1, fun i y hy => ?_⟩ (ax2_k _ _ _ _) (f1.tr (TMr.f8 _ _))
      have := L1.2 i y hy
      unfold SEm at this ⊢
      rw [ax2_n _ _ _ _ (by omega)]
      exact this
  · rw [if_neg (fun q => k6 (k6i.mp q)), if_neg (fun q => k6 q.1)]
    exact body op g1 (Or.inr ⟨k6, rfl⟩) x1 (fr1.sm hL) (fr1.f8 h8) f1
theorem qm_STP (hN : 2000 < N) (hm : LMo Z m) (hn : n ≤ 150) : ∀ d op, op ≤ 6 → 7 ≤ d + op → MKs Z m t n pl ψ op (GG_X10_readsStep N d m) (fun len s => q_stp (fun len p => q_RW t n ψ (d - 1) (op + 1) len p) t n ψ op len s) := by
  intro d
  induction d with
  | zero => intro op h1 h2; omega
  | succ d ih =>
    intro op h1 h2
    show MKs Z m t n pl ψ op (F_X10_readsStep N (GG_X10_readsStep N d) m) (fun len s => q_stp (fun len p => q_RW t n ψ d (op + 1) len p) t n ψ op len s)
    refine qm_step (stp := fun len s => q_stp (fun len p => q_RW t n ψ (d - 1) (op + 1 + 1) len p) t n ψ (op + 1) len s) hN hm hn h1 (fun h => ih (op + 1) (by omega) (by omega)) (fun h len p hp => q_stp_f (fun h len p hp => q_RW_f (d - 1) (op + 1 + 1) len p (by omega) (by omega) hp) hp) (fun len p z e => q_stp_1 e) (fun h len p => ?_)
    obtain ⟨e, rfl⟩ : ∃ e, d = e + 1 := ⟨d - 1, by omega⟩
    show q_row _ t n (q_until (op + 1)) 150 len p = _
    rw [show q_until (op + 1) = 93 from if_neg (by omega)]
    rfl
end
