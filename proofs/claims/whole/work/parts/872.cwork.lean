/-! work: the class -/
theorem q_ls (ψ : QF) (t : QR) (n : Nat) {z : List QE × Nat} (hw : q_fw ψ) (h : q_RW t n ψ 9 0 0 0 = .inr z) (hn : n ≤ 150) : z.1.length ≤ 75 ∧ (∀ q ∈ z.1, q_evl ψ q) ∧ QW z.1 0 z.1.length 0 := by
  obtain ⟨a1, a2, a3⟩ := (q_RW_f (t := t) (n := n) (ψ := ψ) 9 0 0 0 (by omega) (by omega) (Nat.zero_le _)).2 z h
  have e := a3 [] rfl
  rw [Nat.zero_add, List.nil_append] at e
  exact ⟨by omega, q_RW_v hw 9 0 0 0 (by omega) (by omega) (Nat.zero_le _) z h, e⟩
section
variable {Z : AxS} {b m N : Nat} {f g : Nat → Nat → Int32} {ψ : QF} {l : QL} {r β : QR} {nl nb : Nat} {t : QR} {pl rs c0 c1 : Int32} {nw : Nat} {wk : Nat → QR} {ni : Nat} {im : QI}
theorem qc_rsteps {u st fa n : Nat} (hN : 2000 < N) (hu : LTa Z u) (hT : TXz Z) (hS : LSp Z st) (hf : axL Z fa = some (0, 1)) (hd : u + 1 < st) (hfa : fa ≠ u ∧ ¬ (st ≤ fa ∧ fa ≤ st + 3)) (hw : q_fw ψ) (hn : n ≤ 150) (h : CT f u t n 0 0 pl) (h3 : f fa 3 = ψ 0 3) (h5 : f fa 5 = ψ 0 5) : QSs Z u st t n pl [] f (F_X6_readFrom N st u fa (axM Z f)) (q_RW t n ψ 9 0 0 0) := by
  obtain ⟨⟨nv, n1, n2, -⟩, -, ⟨nm, m1, m2, -⟩, -⟩ := q_fw_n hw
  have hs0 := hS.1
  have K := qc_RW (pl := pl) (t := t) (n := n) (ψ := ψ) hN hu hT hS hf hd hfa ⟨nv, by omega, n2⟩ ⟨nm, m1, m2⟩ hn 9 0 (by omega) (by omega) 0 [] f (ax2 f st 3 0) (RFc.ct h (ax2_n _ _ _ _ (by omega)) (ax2_n _ _ _ _ (by omega))) ⟨ax2_k _ _ _ _, fun i q e => (by cases e)⟩ (Nat.zero_le _) h3 h5 ⟨fun x _ c => ax2_n _ _ _ _ (by omega), by rw [ax2_n _ _ _ _ (by omega)]⟩
  change QSs Z u st t n pl [] f (G_X6_readRow N st u fa 0 (axM Z (ax2 f st 3 0))) (q_RW t n ψ 9 0 0 0) at K
  unfold F_X6_readFrom
  rw [m_pi hs0, m_is hs0]
  rcases e1 : q_RW t n ψ 9 0 0 0 with z | z
  · rw [e1] at K
    obtain ⟨f2, q, x2, g2, r2⟩ := K
    rw [x2, axB_s, m_rz0]
    exact ⟨f2, q, rfl, g2, r2⟩
  · rw [e1] at K
    obtain ⟨f2, x2, g2, s2, r2⟩ := K
    rw [x2, axB_s, m_rz1]
    exact ⟨f2, rfl, g2, s2, r2⟩
theorem qc_push (hN : 2000 < N) {a o k : Nat} (hw : LWo Z a) (ho : LSt Z o) (hd : o + 2 < a) (hk : k < 16) (h : f a 1 = Int32.ofNat k) : ∃ f', F_X8_push N a o (axM Z f) = some (axM Z f') ∧ rdSt f' (a + 2 + 3 * k) = rdSt f o ∧ f' a 1 = Int32.ofNat (k + 1) ∧ ∀ x, x ≠ a → x ≠ a + 2 + 3 * k → x ≠ a + 2 + 3 * k + 1 → x ≠ a + 2 + 3 * k + 2 → f' x = f x := by
  obtain ⟨h0, ⟨w0, ws⟩, hws⟩ := hw
  obtain ⟨v1, v2⟩ := hws k hk
  obtain ⟨f1, x1, g1, r1⟩ := qc_take (N := N) (f := f) (by omega) v2 ho (by omega)
  have k1 : f1 a 1 = Int32.ofNat k := by rw [r1 a (by omega) (by omega) (by omega), h]
  unfold F_X8_push
  rw [m_gi h0, h, if_neg (qi_nn (by omega)), m_gi h0, h, m_gr h0 w0, m_len (t := 4) ws (by omega), if_neg (qi_nge (by omega) (by omega)), m_gr h0 w0, m_gi h0, h, m_ldrn (t := 2) ws (by omega) hk (by omega) v1, m_is v2.1, x1, axBV_s, m_gi h0, k1, m_pi h0, qi_s]
  refine ⟨_, rfl, ?_, ax2_k _ _ _ _, fun x p q s v => by rw [ax2_n _ _ _ _ p, r1 x q s v]⟩
  rw [← g1]
  exact rdSt_n f1 _ (by omega)
theorem qc_work (hN : 2000 < N) (h : CA Z b f ψ l r β nl nb t pl rs c0 c1 nw wk ni im) (hV : VA ψ nb t nw wk ni im) (x : Int32) : (∀ n, x = Int32.ofNat n → n ≤ nb → n ≤ 150 → (nw = 16 → ∃ f', F_X9_work N b x (axM Z f) = some (.inl (-20), axM Z f') ∧ CA Z b f' ψ l r β nl 0 t (-1) rs c0 c1 nw wk ni im ∧ CFa b f f') ∧ (nw < 16 → match q_RW t n ψ 9 0 0 0 with
    | .inl z => ∃ f', F_X9_work N b x (axM Z f) = some (.inl (z.1 - 10), axM Z f') ∧ CA Z b f' ψ l r β nl 0 t z.2 rs c0 c1 nw wk ni im ∧ CFa b f f'
    | .inr z => ∃ f', F_X9_work N b x (axM Z f) = some (.inl (q_rn ψ l z.1 r).2.2.1, axM Z f') ∧ CA Z b f' ψ l (q_rn ψ l z.1 r).1 β nl 0 t (-1) (q_rn ψ l z.1 r).2.2.2 c0 c1 (nw + 1) (fun w => if w = nw then r else wk w) ni im ∧ CFa b f f')) ∧ (¬ (0 ≤ x ∧ x ≤ 150 ∧ x ≤ Int32.ofNat nb) → CTz Z b f (F_X9_work N b x (axM Z f)) q_iae 15) := by
  have hRS := h.rst
  obtain ⟨⟨fa, sf, la, sl, bo, sb, hH, hB⟩, hK, hT, k1, k2, k3, -⟩ := h
  have hH' := hH
  obtain ⟨hC, hF, hw, hl, hlw, hR, hok⟩ := hH'
  have hCC := hC
  obtain ⟨⟨a0, a1, -⟩, ⟨d1, -⟩, q1, q2, q3, ⟨e0, e1⟩, ⟨e2, e3⟩, ⟨e4, e5⟩, -, ⟨e8, e9⟩, -⟩ := hCC
  obtain ⟨hnb, hVt, hnw, hwk, hni, him⟩ := id hV
  have hla : b + 14 < la ∧ la + 3 < b + 23 := by clear q1 q3; omega
  have hfa : b + 2 < fa ∧ fa + 5 < b + 15 := by clear q2 q3; omega
  have hbo : b + 22 < bo ∧ bo + 1 < b + 27 := by clear q1 q2; omega
  clear q1 q2 q3
  have hu := e1.1
  have k7 : f (b + 37) 1 = Int32.ofNat nw := hRS.2.2.2.2.1
  -- what a failed reading leaves
  have left : ∀ (g : Nat → Nat → Int32) (p : Int32), (∀ x, x ≠ b + 1 → ¬ (b + 27 ≤ x ∧ x ≤ b + 30) → g x = f x) → g (b + 1) 1 = 0 → g (b + 1) 5 = p → CA Z b g ψ l r β nl 0 t p rs c0 c1 nw wk ni im ∧ CFa b f g := fun g p o2 u2 p2 => by
    refine ⟨CA.mk ⟨fa, sf, la, sl, bo, sb, ⟨hC, ?_, hw, hl.e (o2 _ (by omega) (by omega)) (o2 _ (by omega) (by omega)), hlw, ?_, hok⟩, ?_⟩ ?_ hT u2 p2 (hRS.e hnw hni (fun i hi => (him i hi).1) fun x hx => o2 x (by omega) (by omega)), fun x hx => o2 x (by omega) (by omega)⟩
    · rw [← hF]
      exact rdF_e fun x p q => o2 x (by omega) (by omega)
    · rw [← hR]
      exact rdSt_e (o2 _ (by omega) (by omega)) (o2 _ (by omega) (by omega)) (o2 _ (by omega) (by omega))
    · unfold clB at hB ⊢
      rw [o2 bo (by omega) (by omega), o2 (bo + 1) (by omega) (by omega)]
      exact hB
    · exact fitC.e hK fun x p q => o2 x (by omega) (by omega)
  unfold F_X9_work F_X9_work_27
  refine ⟨fun n hx hn hn2 => ?_, fun c => ?_⟩
  · subst hx
    rw [if_neg (qi_nn (by omega)), if_neg (show ¬ (150 : Int32) < Int32.ofNat n from qi_ngt (i := 150) hn2 (by omega)), m_gr a0 e0, m_gi hu, k1, if_neg (qi_ngt hn (by omega))]
    unfold F_X9_work_28
    rw [qc_needO a0, m_gr a0 e8, m_gi e9.1, k7]
    refine ⟨fun e16 => ?_, fun l16 => ?_⟩
    · obtain ⟨f1, x1, g1, u1, r1⟩ := q_open (N := N) (f := f) (t := t) hu (show 0 ≤ 600 by omega) k2
      have x1' : F_X7_open N (b + 1) 0 (axM Z f) = some (axM Z f1) := x1
      rw [if_neg (show ¬ Int32.ofNat nw < 16 from qi_ngt (j := 16) (by omega) (by omega)), m_gr a0 e0, m_is hu, x1', axBV_s]
      exact ⟨f1, rfl, left f1 (-1) (fun x p _ => r1 x p) u1 g1.2.2.2.1⟩
    · obtain ⟨f1, x1, g1, u1, r1⟩ := q_open (N := N) (f := f) (t := t) hu (show n ≤ 600 by omega) k2
      have K := qc_rsteps (ψ := ψ) hN e1 hT e3 d1.1 (by omega) (show fa ≠ b + 1 ∧ ¬ (b + 27 ≤ fa ∧ fa ≤ b + 27 + 3) by omega) hw hn2 g1 (by rw [r1 fa (by omega)]; exact rdF_0 hF (by omega)) (by rw [r1 fa (by omega)]; exact rdF_0 hF (by omega))
      rw [if_pos (show Int32.ofNat nw < 16 from qi_gt (j := 16) (by omega) (by omega)), m_gr a0 e0, m_is hu, x1, axBV_s, m_gr a0 e2, m_gr a0 e0, m_gr a0 a1, m_is e3.1]
      have G2 : ∀ f2, SFr (b + 1) (b + 27) f1 f2 → (∀ x, x ≠ b + 1 → ¬ (b + 27 ≤ x ∧ x ≤ b + 30) → f2 x = f x) ∧ f2 (b + 1) 1 = 0 := fun f2 hr => ⟨fun x p q => by rw [hr.1 x p (by omega), r1 x p], by rw [hr.2, u1]⟩
      rcases eo : q_RW t n ψ 9 0 0 0 with z | z
      · rw [eo] at K
        obtain ⟨f2, q, x2, g2, hr2⟩ := K
        obtain ⟨o2, u2⟩ := G2 f2 hr2
        refine ⟨f2, ?_, left f2 z.2 o2 u2 g2.2.2.2.1⟩
        rw [x2, axB_s, if_pos rfl, m_gr a0 e0, m_gi hu, g2.2.2.1]
      · rw [eo] at K
        obtain ⟨f2, x2, g2, s2, hr2⟩ := K
        obtain ⟨o2, u2⟩ := G2 f2 hr2
        obtain ⟨z1, z2, z3⟩ := q_ls ψ t n hw eo hn2
        have h12 : r 12 = 0 := by
          rw [← hR]
          rfl
        obtain ⟨t1, t2, -⟩ := q_rn_x (l := l) hw z1 z2 z3 hok h12
        dsimp only
        generalize q_rn ψ l z.1 r = τ at t1 t2 ⊢
        obtain ⟨f3, x3, y3, v3, r3⟩ := qc_push (N := N) (f := f2) (k := nw) hN e9 e5 (by omega) l16 (by rw [o2 _ (by omega) (by omega), k7])
        have E39 : b + 37 + 2 + 3 * nw = b + 39 + 3 * nw := by omega
        rw [E39] at y3 r3
        -- what stands when the steps begin
        have G5 : CRr Z b fa sf la sl bo sb ψ l z.1 (r, 0, 0, 0) (ax2 (ax2 (ax2 f3 (b + 27) 4 0) (b + 27) 5 0) b 13 0) := by
          have o3 : ∀ x, x ≠ b + 1 → ¬ (b + 27 ≤ x ∧ x ≤ b + 30) → x ≠ b + 37 → ¬ (b + 39 ≤ x ∧ x ≤ b + 86) → f3 x = f x := fun x p q s v => by rw [r3 x s (by omega) (by omega) (by omega), o2 x p q]
          have H3 : HC Z b fa sf la sl bo sb f3 ψ l r := ⟨hC, by rw [← hF]; exact rdF_e fun x p q => o3 x (by omega) (by omega) (by omega) (by omega), hw, hl.e (o3 _ (by omega) (by omega) (by omega) (by omega)) (o3 _ (by omega) (by omega) (by omega) (by omega)), hlw, by rw [← hR]; exact rdSt_e (o3 _ (by omega) (by omega) (by omega) (by omega)) (o3 _ (by omega) (by omega) (by omega) (by omega)) (o3 _ (by omega) (by omega) (by omega) (by omega)), hok⟩
          have S3 : SCl f3 (b + 27) z.1 := s2.kp (by rw [r3 _ (by omega) (by omega) (by omega) (by omega)]) (r3 _ (by omega) (by omega) (by omega) (by omega)) (r3 _ (by omega) (by omega) (by omega) (by omega)) (r3 _ (by omega) (by omega) (by omega) (by omega))
          refine ⟨H3.kp fun x p q => by rw [ax2_n _ _ _ _ p, ax2_n _ _ _ _ q, ax2_n _ _ _ _ q], S3.kp (by rw [ax2_n _ _ _ _ (by omega), ax2_j _ _ _ _ _ (by omega), ax2_j _ _ _ _ _ (by omega)]) (by rw [ax2_n _ _ _ _ (by omega), ax2_n _ _ _ _ (by omega), ax2_n _ _ _ _ (by omega)]) (by rw [ax2_n _ _ _ _ (by omega), ax2_n _ _ _ _ (by omega), ax2_n _ _ _ _ (by omega)]) (by rw [ax2_n _ _ _ _ (by omega), ax2_n _ _ _ _ (by omega), ax2_n _ _ _ _ (by omega)]), ?_, ?_, ax2_k _ _ _ _⟩
          · rw [ax2_n _ _ _ _ (by omega), ax2_j _ _ _ _ _ (by omega), ax2_k]
            rfl
          · rw [ax2_n _ _ _ _ (by omega), ax2_k]
        obtain ⟨f6, x6, G6, r6⟩ := t2 Z b fa sf la sl bo sb N N 9 _ hN (by omega) (by omega) G5
        have x6' : G_X9_runSteps N b 0 (Int32.ofNat z.1.length) 0 (axM Z (ax2 (ax2 (ax2 f3 (b + 27) 4 0) (b + 27) 5 0) b 13 0)) = some (axM Z f6) := by
          show F_X9_runSteps N (GG_X9_runSteps N 9) b 0 (Int32.ofNat z.1.length) 0 _ = _
          unfold F_X9_runSteps
          rw [if_pos (by decide)]
          exact x6
        have len3 : ax2 (ax2 (ax2 f3 (b + 27) 4 0) (b + 27) 5 0) b 13 0 (b + 27) 3 = Int32.ofNat z.1.length := G5.2.1.1
        have o6 : ∀ x, ¬ (x = b ∨ x = b + 1 ∨ x = b + 17 ∨ x = b + 18 ∨ x = b + 21 ∨ x = b + 22 ∨ (b + 27 ≤ x ∧ x ≤ b + 33) ∨ x = b + 37 ∨ x = b + 39 + 3 * nw ∨ x = b + 39 + 3 * nw + 1 ∨ x = b + 39 + 3 * nw + 2) → f6 x = f x := fun x hx => by
          rw [r6.1 x (by omega), ax2_n _ _ _ _ (by omega), ax2_n _ _ _ _ (by omega), ax2_n _ _ _ _ (by omega), r3 x (by omega) (by omega) (by omega) (by omega), o2 x (by omega) (by omega)]
        have o6b : ∀ k, k ≠ 13 → f6 b k = f b k := fun k hk => by
          rw [r6.2 k hk, ax2_j _ _ _ _ _ hk, ax2_n _ _ _ _ (by omega), ax2_n _ _ _ _ (by omega), r3 b (by omega) (by omega) (by omega) (by omega), o2 b (by omega) (by omega)]
        have o63 : ∀ x, x = b + 1 ∨ x = b + 37 ∨ (b + 39 + 3 * nw ≤ x ∧ x ≤ b + 39 + 3 * nw + 2) → f6 x = f3 x := fun x hx => by
          rw [r6.1 x (by omega), ax2_n _ _ _ _ (by omega), ax2_n _ _ _ _ (by omega), ax2_n _ _ _ _ (by omega)]
        have s0 := e3.1
        refine ⟨f6, ?_, CA.mk ⟨fa, sf, la, sl, bo, sb, G6.1, ?_⟩ ?_ hT ?_ ?_ ⟨fun j hj => ?_, G6.2.2.2.2, ?_, ?_, ?_, fun w hw => ?_, ?_, fun i hi => ?_⟩, fun x hx => o6 x (by omega)⟩
        · rw [x2, axB_s, if_neg (show ¬ (1 : Int32) = 0 by decide), m_gr a0 e8, m_gr a0 e4, m_is e9.1, x3, axBV_s, m_gr a0 e2, m_pi s0, m_gr a0 e2, m_pi s0, m_pi a0, m_gr a0 e2, m_gi s0, len3, m_is a0, x6', axBV_s, m_gr a0 e2, m_gi s0, G6.2.2.2.1]
        · unfold clB at hB ⊢
          rw [o6 bo (by omega), o6 (bo + 1) (by omega)]
          exact hB
        · exact fitC.e hK fun x p q => o6 x (by omega)
        · rw [o63 _ (by omega), r3 _ (by omega) (by omega) (by omega) (by omega), u2]
          rfl
        · rw [o63 _ (by omega), r3 _ (by omega) (by omega) (by omega) (by omega), g2.2.2.2.1]
        · rw [o6 _ (by omega)]
          exact k2 j hj
        · rw [o6b _ (by omega)]
          exact hRS.2.2.1
        · rw [o6b _ (by omega)]
          exact hRS.2.2.2.1
        · rw [o63 _ (by omega), v3]
        · show rdSt f6 (b + 39 + 3 * w) = (if w = nw then r else wk w)
          by_cases c : w = nw
          · rw [if_pos c, c]
            rw [rdSt_e (o63 _ (by omega)) (o63 _ (by omega)) (o63 _ (by omega)), y3, ← hR]
            exact rdSt_e (o2 _ (by omega) (by omega)) (o2 _ (by omega) (by omega)) (o2 _ (by omega) (by omega))
          · rw [if_neg c, ← hRS.2.2.2.2.2.1 w (by omega)]
            exact rdSt_e (o6 _ (by omega)) (o6 _ (by omega)) (o6 _ (by omega))
        · rw [o6b _ (by omega)]
          exact hRS.2.2.2.2.2.2.1
        · obtain ⟨v1, v2, v3⟩ := hRS.2.2.2.2.2.2.2 i hi
          refine ⟨by rw [o6 _ (by omega), v1], ?_, fun w hw => ?_⟩
          · rw [← v2]
            exact rdSt_e (o6 _ (by omega)) (o6 _ (by omega)) (o6 _ (by omega))
          · have := (him i hi).1
            rw [← v3 w hw]
            exact rdSt_e (o6 _ (by omega)) (o6 _ (by omega)) (o6 _ (by omega))
  · unfold F_X9_work_28
    have key : ∀ K : Unit → AxS → Option (AxT Int32), CTz Z b f (ax_is (axM Z f) b 9 (axBT (F_X9_needArgument N b 0 (axM Z f)) K)) q_iae 15 := fun K => by
      rw [qc_needT a0]
      exact ⟨_, rfl, fun _ _ => rfl⟩
    by_cases c1 : x < 0
    · rw [if_pos c1]
      exact key _
    rw [if_neg c1]
    by_cases c2 : 150 < x
    · rw [if_pos c2]
      exact key _
    rw [if_neg c2, m_gr a0 e0, m_gi e1.1, k1, if_pos (Int32.not_le.mp fun q => c ⟨Int32.not_lt.mp c1, Int32.not_lt.mp c2, q⟩)]
    exact key _
end
