/-! steps: the class reads a row of them -/
section
variable {Z : AxS} {u st fa N n p op s : Nat} {f f0 : Nat → Nat → Int32} {t : QR} {pl : Int32} {ψ : QF} {acc : List QE} {kr : Nat → Nat → Nat → Int32 → AxS → Option (Int32 × AxS)} {krp : Nat → Nat → QO5}
theorem q_stp_1 {len : Nat} {z : List QE × Nat} (h : q_stp krp t n ψ op len s = .inr z) : 1 ≤ z.1.length := by
  unfold q_stp at h
  by_cases c7 : q_kd t s (q_wrl t n s) = 7
  · rw [if_pos c7] at h
    cases h
  rw [if_neg c7] at h
  by_cases c6 : q_kd t s (q_wrl t n s) = 6 ∧ 6 ≤ op
  · rw [if_pos c6] at h
    cases h
  rw [if_neg c6] at h
  rcases e1 : q_nu t n ψ (q_kd t s (q_wrl t n s)) (q_wrl t n s) with y | v
  · rw [e1, q_bd_l rfl] at h
    cases h
  rw [e1, q_bd_r rfl] at h
  by_cases d6 : q_kd t s (q_wrl t n s) = 6
  · rw [if_pos d6] at h
    rcases e2 : q_tk t n 91 v.2.2 with y | p2
    · rw [e2, q_bd_l rfl] at h
      cases h
    rw [e2, q_bd_r rfl] at h
    rcases e3 : krp (len + 1) p2 with y | C
    · rw [e3, q_bd_l rfl] at h
      cases h
    rw [e3, q_bd_r rfl] at h
    rcases e4 : q_tk t n 93 C.2 with y | p3
    · rw [e4, q_bd_l rfl] at h
      cases h
    rw [e4, q_bd_r rfl] at h
    rcases e5 : q_tk t n 59 p3 with y | p4
    · rw [e5, q_bd_l rfl] at h
      cases h
    rw [e5, q_bd_r rfl] at h
    cases h
    show 1 ≤ C.1.length + 1
    omega
  · rw [if_neg d6] at h
    rcases e2 : q_tk t n 59 v.2.2 with y | p2
    · rw [e2, q_bd_l rfl] at h
      cases h
    rw [e2, q_bd_r rfl] at h
    cases h
    exact Nat.le_refl 1
def QKs (Z : AxS) (u st fa : Nat) (t : QR) (n : Nat) (pl : Int32) (ψ : QF) (F : AxS → Option (Int32 × AxS)) (P : Nat → Nat → QO5) : Prop := ∀ (p : Nat) (acc : List QE) (f0 f : Nat → Nat → Int32), CT f u t n p 0 pl → SCl f st acc → 2 * acc.length ≤ p → f0 fa 3 = ψ 0 3 → f0 fa 5 = ψ 0 5 → SFr u st f0 f → QSs Z u st t n pl acc f0 (F (axM Z f)) (P acc.length p)
theorem qc_step (hN : 2000 < N) (hu : LTa Z u) (hT : TXz Z) (hS : LSp Z st) (hf : axL Z fa = some (0, 1)) (hd : u + 1 < st) (hfa : fa ≠ u ∧ ¬ (st ≤ fa ∧ fa ≤ st + 3)) (b3 : ∃ c, c ≤ 8 ∧ ψ 0 3 = Int32.ofNat c) (b5 : ∃ c, c ≤ 8 ∧ ψ 0 5 = Int32.ofNat c) (hn : n ≤ 150) (ho : op ≤ 6) (hk : op < 6 → QKs Z u st fa t n pl ψ (kr st u fa (Int32.ofNat (op + 1))) krp) (hkf : op < 6 → ∀ len p, p ≤ n → q_sft (op + 1) len p n (krp len p)) (hss : q_bl t n s = s) (h : CT f u t n s 0 pl) (hL : SCl f st acc) (ha : 2 * acc.length ≤ s) (h3 : f0 fa 3 = ψ 0 3) (h5 : f0 fa 5 = ψ 0 5) (hr : SFr u st f0 f) : QSs Z u st t n pl acc f0 (F_X6_readStep N kr st u fa (Int32.ofNat op) (axM Z f)) (q_stp krp t n ψ op acc.length s) := by
  have h0 := hu.1
  have hsn := h.2.2.2.2.2.2
  have hS' := hS
  obtain ⟨hs0, ⟨p0, s0⟩, ⟨p1, s1⟩, p2_9, s2⟩ := hS
  obtain ⟨f1, e1, g1, g6, fr1⟩ := qc_word hN hu h
  rw [hss] at g1 g6
  have hle := (q_skp_b q_isL t hsn).1
  change s ≤ q_wrl t n s at hle
  have hwn := (q_skp_b q_isL t hsn).2.1
  change q_wrl t n s ≤ n at hwn
  have L1 := fr1.sl hd hL
  have r1 := hr.tr (fr1.sf st)
  have fails : ∀ (a : Int32), a ≠ 0 → QSs Z u st t n pl acc f0 (ax_gi (axM Z f1) u 7 6 fun x10 => ax_is (axM Z f1) u 7 <| axB (F_X7_fails N u a x10 (axM Z f1)) fun x13 T12 => ax_rz x13 (some (x13, T12))) (.inl (a, Int32.ofNat s)) := fun a ha => by
    obtain ⟨f2, e2, g2, fr2⟩ := qc_fails (N := N) h0 g1 a (Int32.ofNat s)
    rw [if_pos rfl, if_pos rfl] at g2
    rw [m_gi h0, g6, m_is h0, e2, axB_s, m_rz0]
    exact ⟨f2, _, rfl, g2, r1.tr (fr2.sf st)⟩
  unfold F_X6_readStep q_stp
  rw [m_is h0, e1, axBV_s, qc_skind hN hu hT g1 g6 hle, axB_s]
  rcases q_kd_b t s (q_wrl t n s) with c7 | ⟨c7, cw⟩
  · rw [if_pos c7, if_pos c7, if_pos rfl]
    exact fails 1 (by decide)
  rw [if_neg (show ¬ q_kd t s (q_wrl t n s) = 7 by omega), if_neg (show ¬ q_kd t s (q_wrl t n s) = 7 by omega), if_neg (show ¬ Int32.ofNat (q_kd t s (q_wrl t n s) + 1) = 0 from qi_ne (j := 0) (by omega) (by omega) (by omega))]
  generalize hk9 : q_kd t s (q_wrl t n s) = k at c7 cw ⊢
  -- the step itself
  have body : ¬ (k = 6 ∧ 6 ≤ op) → QSs Z u st t n pl acc f0 (F_X6_readStep_48 N kr st u fa (Int32.ofNat op) (Int32.ofNat (k + 1)) (axM Z f1)) (q_bd (q_nu t n ψ k (q_wrl t n s)) fun v => if k = 6 then q_bd (q_tk t n 91 v.2.2) fun p2 => q_bd (krp (acc.length + 1) p2) fun C => q_bd (q_tk t n 93 C.2) fun p3 => q_bd (q_tk t n 59 p3) fun p4 => .inr ((6, v.1, 0, some (acc.length + 1 + C.1.length)) :: C.1, p4) else q_bd (q_tk t n 59 v.2.2) fun p4 => .inr ([(k, v.1, v.2.1, some (acc.length + 1))], p4)) := by
    intro n6
    have g2 : CT (ax2 (ax2 f1 st 3 (Int32.ofNat (acc.length + 1))) (st + 1) acc.length (Int32.ofNat (k + 1))) u t n (q_wrl t n s) 0 pl := RFc.ct g1 (by rw [ax2_n _ _ _ _ (by omega), ax2_n _ _ _ _ (by omega)]) (by rw [ax2_n _ _ _ _ (by omega), ax2_n _ _ _ _ (by omega)])
    have r2 : SFr u st f0 (ax2 (ax2 f1 st 3 (Int32.ofNat (acc.length + 1))) (st + 1) acc.length (Int32.ofNat (k + 1))) := r1.tr ⟨fun x a c => by rw [ax2_n _ _ _ _ (by omega), ax2_n _ _ _ _ (by omega)], by rw [ax2_n _ _ _ _ (by omega), ax2_n _ _ _ _ (by omega)]⟩
    have NU := qc_snums (k := k) (i := acc.length) c7 hN hu hS' hf hd hfa h3 h5 b3 b5 (by omega) g2 (ax2_k _ _ _ _) (by rw [ax2_n _ _ _ _ (by omega), ax2_k]) r2
    have sd : SDx st acc.length f1 (ax2 (ax2 f1 st 3 (Int32.ofNat (acc.length + 1))) (st + 1) acc.length (Int32.ofNat (k + 1))) := (SDx.w0 f1 _).tr (SDx.w _ _)
    have k7 : (Int32.ofNat (k + 1) = 7) ↔ k = 6 := by
      rw [show (7 : Int32) = Int32.ofNat 7 from rfl, qi_eq (by omega) (by omega)]
      omega
    have hNF := q_nu_f (t := t) (ψ := ψ) (k := k) hwn
    unfold F_X6_readStep_48
    rw [m_gi hs0, L1.1, m_gi hs0, L1.1, m_pi hs0, qi_s, m_gr hs0 p0, m_putn N s0 (show acc.length < 150 by omega) (by omega), axBV_s, m_is hs0]
    rcases e3 : q_nu t n ψ k (q_wrl t n s) with z | v
    · obtain ⟨g, q, y, c, r⟩ := NU.2 z e3
      have hz := hNF.1 z e3
      rw [q_bd_l rfl, y, axBV_s]
      by_cases k6 : k = 6
      · obtain ⟨f4, q4, x4, g4, fr4⟩ := (qc_takes hN hu c (c := 91) (by decide)).2 fun y => hz y.1
        rw [if_neg hz, if_neg hz] at g4
        rw [if_pos (k7.mpr k6), m_is h0, x4, axB_s, if_pos rfl, m_rz0]
        exact ⟨f4, q4, rfl, g4, r.tr (fr4.sf st)⟩
      · obtain ⟨f4, q4, x4, g4, fr4⟩ := (qc_takes hN hu c (c := 59) (by decide)).2 fun y => hz y.1
        rw [if_neg hz, if_neg hz] at g4
        unfold F_X6_readStep_137
        rw [if_neg (fun q => k6 (k7.mp q)), m_is h0, x4, axB_s, m_rz0]
        exact ⟨f4, q4, rfl, g4, r.tr (fr4.sf st)⟩
    obtain ⟨g, y, c, sx, gs3, en, r⟩ := NU.1 v e3
    obtain ⟨v1, v2, -⟩ := hNF.2 v e3
    rw [q_bd_r rfl, y, axBV_s]
    have sg := sd.tr sx
    by_cases k6 : k = 6
    · subst k6
      rw [if_pos (k7.mpr rfl), if_pos rfl, m_is h0]
      have T1 := qc_tkn hN hu c (c := 91) (by decide)
      rcases e4 : q_tk t n 91 v.2.2 with z | p2
      · obtain ⟨f4, q, x4, g4, fr4⟩ := T1.1 z e4
        rw [q_bd_l rfl, x4, axB_s, if_pos rfl, m_rz0]
        exact ⟨f4, q, rfl, g4, r.tr (fr4.sf st)⟩
      obtain ⟨f4, x4, g4, fr4⟩ := T1.2 p2 e4
      obtain ⟨a1, a2⟩ := (q_tk_f (by decide) v2).2 p2 e4
      have L4 : SCl f4 st (acc ++ [(6, v.1, 0, none)]) := fr4.sl hd (L1.add sg gs3 ⟨en.1, en.2.1, fun q => absurd q (by show ¬ (6 : Nat) = 4; omega), fun _ e he => (by cases he)⟩)
      have K := hk (by omega) p2 (acc ++ [(6, v.1, 0, none)]) f0 f4 g4 L4 (by rw [List.length_append]; show 2 * (acc.length + 1) ≤ p2; have := q_isw_l hsn (q_U_len 6 (by omega)) cw; omega) h3 h5 (r.tr (fr4.sf st))
      have hl9 : (acc ++ [((6 : Nat), v.1, 0, none)]).length = acc.length + 1 := by
        rw [List.length_append]
        rfl
      rw [hl9] at K
      rw [q_bd_r rfl, x4, axB_s, if_neg (show ¬ (1 : Int32) = 0 by decide), m_is hs0, qi_s]
      rcases e5 : krp (acc.length + 1) p2 with z | C
      · rw [e5] at K
        obtain ⟨f5, q, x5, g5, r5⟩ := K
        rw [q_bd_l rfl, x5, axB_s, if_pos rfl, m_rz0]
        exact ⟨f5, q, rfl, g5, r5⟩
      rw [e5] at K
      obtain ⟨f5, x5, g5, L5, r5⟩ := K
      obtain ⟨b1, b2, -⟩ := (hkf (by omega) (acc.length + 1) p2 a2).2 C e5
      rw [q_bd_r rfl, x5, axB_s, if_neg (show ¬ (1 : Int32) = 0 by decide), m_is h0]
      have T2 := qc_tkn hN hu g5 (c := 93) (by decide)
      rcases e6 : q_tk t n 93 C.2 with z | p3
      · obtain ⟨f6, q, x6, g6, fr6⟩ := T2.1 z e6
        rw [q_bd_l rfl, x6, axB_s, if_pos rfl, m_rz0]
        exact ⟨f6, q, rfl, g6, r5.tr (fr6.sf st)⟩
      obtain ⟨f6, x6, g6', fr6⟩ := T2.2 p3 e6
      have L6 := fr6.sl hd L5
      have l63 : f6 st 3 = Int32.ofNat (acc.length + 1 + C.1.length) := by
        rw [L6.1, List.length_append, hl9]
      rw [q_bd_r rfl, x6, axB_s, if_neg (show ¬ (1 : Int32) = 0 by decide), m_gr hs0 p2_9, m_gi hs0, l63, m_putn N s2 (show acc.length < 150 by omega) (by omega), axBV_s]
      unfold F_X6_readStep_137
      have L7 := L6.fill (e := acc.length + 1 + C.1.length) rfl
      have g7 : CT (ax2 f6 (st + 3) acc.length (Int32.ofNat (acc.length + 1 + C.1.length))) u t n p3 0 pl := RFc.ct g6' (ax2_n _ _ _ _ (by omega)) (ax2_n _ _ _ _ (by omega))
      have r7 : SFr u st f0 (ax2 f6 (st + 3) acc.length (Int32.ofNat (acc.length + 1 + C.1.length))) := (r5.tr (fr6.sf st)).tr ⟨fun x a c => ax2_n _ _ _ _ (by omega), by rw [ax2_n _ _ _ _ (by omega)]⟩
      rw [m_is h0]
      have T3 := qc_tkn hN hu g7 (c := 59) (by decide)
      rcases e8 : q_tk t n 59 p3 with z | p4
      · obtain ⟨f8, q, x8, g8, fr8⟩ := T3.1 z e8
        rw [q_bd_l rfl, x8, axB_s, m_rz0]
        exact ⟨f8, q, rfl, g8, r7.tr (fr8.sf st)⟩
      · obtain ⟨f8, x8, g8, fr8⟩ := T3.2 p4 e8
        rw [q_bd_r rfl, x8, axB_s, m_rz1]
        exact ⟨f8, rfl, g8, fr8.sl hd L7, r7.tr (fr8.sf st)⟩
    · unfold F_X6_readStep_137
      rw [if_neg (fun q => k6 (k7.mp q)), if_neg k6, m_is h0]
      have L4 : SCl g st (acc ++ [(k, v.1, v.2.1, some (acc.length + 1))]) := L1.add sg gs3 ⟨en.1, en.2.1, en.2.2.1, fun q => absurd q k6⟩
      have T1 := qc_tkn hN hu c (c := 59) (by decide)
      rcases e4 : q_tk t n 59 v.2.2 with z | p4
      · obtain ⟨f4, q, x4, g4, fr4⟩ := T1.1 z e4
        rw [q_bd_l rfl, x4, axB_s, m_rz0]
        exact ⟨f4, q, rfl, g4, r.tr (fr4.sf st)⟩
      · obtain ⟨f4, x4, g4, fr4⟩ := T1.2 p4 e4
        rw [q_bd_r rfl, x4, axB_s, m_rz1]
        exact ⟨f4, rfl, g4, fr4.sl hd L4, r.tr (fr4.sf st)⟩
  by_cases c6 : k = 6 ∧ 6 ≤ op
  · rw [if_pos c6, if_pos (show Int32.ofNat (k + 1) = 7 by rw [c6.1]; rfl), if_neg (show ¬ Int32.ofNat op < 6 from qi_ngt (j := 6) (by omega) (by omega))]
    exact fails 3 (by decide)
  rw [if_neg c6]
  by_cases k6 : k = 6
  · rw [if_pos (show Int32.ofNat (k + 1) = 7 by rw [k6]; rfl), if_pos (show Int32.ofNat op < 6 from qi_gt (j := 6) (by omega) (by omega))]
    exact body c6
  · rw [if_neg (show ¬ Int32.ofNat (k + 1) = 7 from qi_ne (j := 7) (by omega) (by omega) (by omega))]
    exact body c6
theorem qc_row_l (hN : 2000 < N) (hu : LTa Z u) (hT : TXz Z) (hS : LSp Z st) (hf : axL Z fa = some (0, 1)) (hd : u + 1 < st) (hfa : fa ≠ u ∧ ¬ (st ≤ fa ∧ fa ≤ st + 3)) (b3 : ∃ c, c ≤ 8 ∧ ψ 0 3 = Int32.ofNat c) (b5 : ∃ c, c ≤ 8 ∧ ψ 0 5 = Int32.ofNat c) (hn : n ≤ 150) (ho : op ≤ 6) (hk : op < 6 → QKs Z u st fa t n pl ψ (kr st u fa (Int32.ofNat (op + 1))) krp) (hkf : op < 6 → ∀ len p, p ≤ n → q_sft (op + 1) len p n (krp len p)) (un : Int32) (h3 : f0 fa 3 = ψ 0 3) (h5 : f0 fa 5 = ψ 0 5) : ∀ (k i p fu : Nat) (acc : List QE) (f : Nat → Nat → Int32), k + i = 150 → 2 * i ≤ p → k < fu → CT f u t n p 0 pl → SCl f st acc → 2 * acc.length ≤ p → SFr u st f0 f → QSs Z u st t n pl acc f0 (F_X6_readRow_15 N kr fu st u fa (Int32.ofNat op) un (Int32.ofNat i) (axM Z f)) (q_row (fun len s => q_stp krp t n ψ op len s) t n un k acc.length p) := by
  have h0 := hu.1
  have hs0 := hS.1
  intro k
  induction k with
  | zero =>
    intro i p fu acc f hi hip hfu h hL ha hr
    have := h.2.2.2.2.2.2
    omega
  | succ k ih =>
    intro i p fu acc f hi hip hfu h hL ha hr
    obtain ⟨fu, rfl⟩ : ∃ q, fu = q + 1 := ⟨fu - 1, by omega⟩
    have hpn := h.2.2.2.2.2.2
    obtain ⟨hb1, hb2, -⟩ := q_skp_b q_isB t hpn
    change p ≤ q_bl t n p at hb1
    change q_bl t n p ≤ n at hb2
    obtain ⟨f1, e1, g1, fr1⟩ := qc_sign hN hu h
    have L1 := fr1.sl hd hL
    have r1 := hr.tr (fr1.sf st)
    show QSs Z u st t n pl acc f0 (F_X6_readRow_15b N kr (F_X6_readRow_15 N kr fu) st u fa (Int32.ofNat op) un (Int32.ofNat i) (axM Z f)) _
    unfold F_X6_readRow_15b q_row
    rw [if_neg (show ¬ (150 : Int32) ≤ Int32.ofNat i from qi_nge (i := 150) (by omega) (by omega)), m_is h0, e1, axB_s]
    by_cases c : q_B t n (q_bl t n p) = un
    · unfold F_X6_readRow_50
      rw [if_pos c, if_pos c, m_gi h0, g1.2.2.1, if_pos rfl, m_rz1]
      exact ⟨f1, rfl, g1, by rw [List.append_nil]; exact L1, r1⟩
    rw [if_neg c, if_neg c, m_is hs0]
    have S := qc_step (s := q_bl t n p) hN hu hT hS hf hd hfa b3 b5 hn ho hk hkf (q_skp_i q_isB t hpn) g1 L1 (by omega) h3 h5 r1
    have SF := q_stp_f (t := t) (ψ := ψ) (len := acc.length) hkf hb2
    change QSs Z u st t n pl acc f0 _ (q_stp krp t n ψ op acc.length (q_bl t n p)) at S
    rcases e2 : q_stp krp t n ψ op acc.length (q_bl t n p) with z | a
    · rw [e2] at S
      obtain ⟨f2, q, x2, g2, r2⟩ := S
      rw [q_bd_l rfl, x2, axB_s, if_pos rfl, m_rz0]
      exact ⟨f2, q, rfl, g2, r2⟩
    rw [e2] at S
    obtain ⟨f2, x2, g2, L2, r2⟩ := S
    obtain ⟨a1, a2, -⟩ := SF.2 a e2
    have a0 := q_stp_1 e2
    rw [q_bd_r rfl, x2, axB_s, if_neg (show ¬ (1 : Int32) = 0 by decide), qi_s]
    have I := ih (i + 1) a.2 fu (acc ++ a.1) f2 (by omega) (by omega) (by omega) g2 L2 (by rw [List.length_append]; omega) r2
    rw [List.length_append] at I
    rcases e5 : q_row (fun len s => q_stp krp t n ψ op len s) t n un k (acc.length + a.1.length) a.2 with z | y
    · rw [e5] at I
      rw [q_bd_l rfl]
      exact I
    · rw [e5] at I
      rw [q_bd_r rfl]
      obtain ⟨f5, x5, g5, l5, r5⟩ := I
      refine ⟨f5, x5, g5, ?_, r5⟩
      rw [List.append_assoc] at l5
      exact l5
theorem qc_RW (hN : 2000 < N) (hu : LTa Z u) (hT : TXz Z) (hS : LSp Z st) (hf : axL Z fa = some (0, 1)) (hd : u + 1 < st) (hfa : fa ≠ u ∧ ¬ (st ≤ fa ∧ fa ≤ st + 3)) (b3 : ∃ c, c ≤ 8 ∧ ψ 0 3 = Int32.ofNat c) (b5 : ∃ c, c ≤ 8 ∧ ψ 0 5 = Int32.ofNat c) (hn : n ≤ 150) : ∀ d op, op ≤ 6 → 7 ≤ d + op → QKs Z u st fa t n pl ψ (GG_X6_readRow N d st u fa (Int32.ofNat op)) (fun len p => q_RW t n ψ d op len p) := by
  intro d
  induction d with
  | zero => intro op h1 h2; omega
  | succ d ih =>
    intro op h1 h2 p acc f0 f h hL ha h3 h5 hr
    have hk : op < 6 → QKs Z u st fa t n pl ψ (GG_X6_readRow N d st u fa (Int32.ofNat (op + 1))) (fun len p => q_RW t n ψ d (op + 1) len p) := fun h => ih (op + 1) (by omega) (by omega)
    have hkf : op < 6 → ∀ len p, p ≤ n → q_sft (op + 1) len p n (q_RW t n ψ d (op + 1) len p) := fun h len p hp => q_RW_f d (op + 1) len p (by omega) (by omega) hp
    have R := qc_row_l (kr := GG_X6_readRow N d) hN hu hT hS hf hd hfa b3 b5 hn h1 hk hkf (q_until op) h3 h5 150 0 p N acc f (by omega) (by omega) (by omega) h hL ha hr
    show QSs Z u st t n pl acc f0 (F_X6_readRow N (GG_X6_readRow N d) st u fa (Int32.ofNat op) (axM Z f)) (q_RW t n ψ (d + 1) op acc.length p)
    unfold F_X6_readRow F_X6_readRow_10 q_RW
    unfold q_until at R ⊢
    by_cases c : op = 0
    · rw [if_pos c] at R ⊢
      rw [if_pos (show Int32.ofNat op ≤ 0 by rw [c]; decide)]
      exact R
    · rw [if_neg c] at R ⊢
      rw [if_neg (show ¬ Int32.ofNat op ≤ 0 from qi_nge (j := 0) (by omega) (by omega))]
      exact R
end
