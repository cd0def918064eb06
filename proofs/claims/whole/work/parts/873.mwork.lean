/-! work: the model -/
section
variable {Z : AxS} {m N n : Nat} {f g g0 : Nat → Nat → Int32} {ψ : QF} {l : QL} {r β : QR} {nl nb : Nat} {t : QR} {pl rs c0 c1 : Int32} {nw : Nat} {wk : Nat → QR} {ni : Nat} {im : QI}
/-- the text's end: the loop's answer -/
def QMr6 (Z : AxS) (m : Nat) (t : QR) (n : Nat) (pl : Int32) (op : Nat) (acc : List QE) (g : Nat → Nat → Int32) (r : Option (Int32 × AxS)) (K : AxS → Option (Int32 × AxS)) (o : QO5) : Prop := match o with
  | .inl z => ∃ g' q, r = K (axM Z g') ∧ MT g' m t n q z.1 z.2 ∧ z.1 ≠ 0 ∧ TMr m g g'
  | .inr z => ∃ g', r = K (axM Z g') ∧ MT g' m t n z.2 0 pl ∧ SMl g' m (acc ++ z.1) ∧ g' m 8 = Int32.ofNat op ∧ TMr m g g'
/-- all steps of a text -/
theorem qm_row0_l (hN : 2000 < N) (hm : LMo Z m) (hn : n ≤ 150) (ht : ∀ j, j < n → t j ≠ -1) {stp : Nat → Nat → QO5} (hk : MKs Z m t n pl ψ 0 (G_X10_readsStep N m) stp) (hkf : ∀ len p, p ≤ n → q_sft 0 len p n (stp len p)) (h1 : ∀ len p z, stp len p = .inr z → 1 ≤ z.1.length) (h3 : g0 (m + 4) 0 = ψ 0 3) (h5 : g0 (m + 4) 2 = ψ 0 5) : ∀ (k p fu : Nat) (acc : List QE) (g : Nat → Nat → Int32), n < 2 * k + p → k + 1 < fu → p ≤ n → MT g m t n (q_bl t n p) 0 pl → SMl g m acc → 2 * acc.length ≤ p → g m 8 = Int32.ofNat 0 → TMr m g0 g → QMr6 Z m t n pl 0 acc g0 (F_X10_work_72 N fu m (axM Z g)) (F_X10_work_101 N m) (q_row stp t n (-1) k acc.length p) := by
  have h0 := hm.1
  intro k
  induction k with
  | zero =>
    intro p fu acc g hi hfu hpn h hL ha h8 hr
    omega
  | succ k ih =>
    intro p fu acc g hi hfu hpn h hL ha h8 hr
    obtain ⟨fu, rfl⟩ : ∃ q, fu = q + 1 := ⟨fu - 1, by omega⟩
    obtain ⟨hb1, hb2, -⟩ := q_skp_b q_isB t hpn
    change p ≤ q_bl t n p at hb1
    change q_bl t n p ≤ n at hb2
    have hss : q_bl t n (q_bl t n p) = q_bl t n p := q_skp_i q_isB t hpn
    show QMr6 Z m t n pl 0 acc g0 (F_X10_work_72b N (F_X10_work_72 N fu) m (axM Z g)) _ _
    unfold F_X10_work_72b q_row
    rw [m_gi h0, h.2.2.1, if_pos rfl, m_gi h0, h.2.1, m_gi h0, h.1]
    by_cases c : n ≤ q_bl t n p
    · rw [if_pos (qi_ge c (by omega)), if_pos ((q_B_end ht).mpr c)]
      exact ⟨g, rfl, h, by rw [List.append_nil]; exact hL, h8, hr⟩
    rw [if_neg (qi_nge (by omega) (by omega)), if_neg (fun q => c ((q_B_end ht).mp q)), m_is h0]
    have S := hk (q_bl t n p) acc g0 g hss h hL (by omega) h8 h3 h5 hr
    have SF := hkf acc.length (q_bl t n p) hb2
    rcases e2 : stp acc.length (q_bl t n p) with z | a
    · rw [e2] at S
      obtain ⟨g2, q, x2, y2, r2⟩ := S
      obtain ⟨g3, x3, y3, fr3⟩ := qm_blanks hN hm y2
      have hz := SF.1 z e2
      obtain ⟨fu, rfl⟩ : ∃ q, fu = q + 1 := ⟨fu - 1, by omega⟩
      rw [q_bd_l rfl, x2, axBV_s, m_is h0, x3, axBV_s]
      refine ⟨g3, _, ?_, y3, hz, r2.tr fr3.tm⟩
      show F_X10_work_72b N (F_X10_work_72 N fu) m (axM Z g3) = _
      unfold F_X10_work_72b
      rw [m_gi h0, y3.2.2.1, if_neg hz]
    rw [e2] at S
    obtain ⟨g2, x2, y2, L2, h82, r2⟩ := S
    obtain ⟨a1, a2, -⟩ := SF.2 a e2
    have a0 := h1 _ _ _ e2
    obtain ⟨g3, x3, y3, fr3⟩ := qm_blanks hN hm y2
    rw [q_bd_r rfl, x2, axBV_s, m_is h0, x3, axBV_s]
    have I := ih a.2 fu (acc ++ a.1) g3 (by omega) (by omega) a2 y3 (fr3.sm L2) (by rw [List.length_append]; omega) (fr3.f8 h82) (r2.tr fr3.tm)
    rw [List.length_append] at I
    rcases e5 : q_row stp t n (-1) k (acc.length + a.1.length) a.2 with z | y
    · rw [e5] at I
      rw [q_bd_l rfl]
      exact I
    · rw [e5] at I
      rw [q_bd_r rfl]
      obtain ⟨g5, x5, y5, l5, h85, r5⟩ := I
      refine ⟨g5, x5, y5, ?_, h85, r5⟩
      rw [List.append_assoc] at l5
      exact l5
theorem qm_work (hN : 2000 < N) (h : MA Z m f ψ l r β nl nb t pl rs c0 c1 nw wk ni im) (hV : VA ψ nb t nw wk ni im) (x : Int32) : (∀ n, x = Int32.ofNat n → n ≤ nb → n ≤ 150 → (nw = 16 → ∃ f', F_X10_work N m x (axM Z f) = some (-20, axM Z f') ∧ MA Z m f' ψ l r β nl 0 t (-1) rs c0 c1 nw wk ni im ∧ MK Z m f f') ∧ (nw < 16 → match q_RW t n ψ 9 0 0 0 with
    | .inl z => ∃ f', F_X10_work N m x (axM Z f) = some (z.1 - 10, axM Z f') ∧ MA Z m f' ψ l r β nl 0 t z.2 rs c0 c1 nw wk ni im ∧ MK Z m f f'
    | .inr z => ∃ f', F_X10_work N m x (axM Z f) = some ((q_rn ψ l z.1 r).2.2.1, axM Z f') ∧ MA Z m f' ψ l (q_rn ψ l z.1 r).1 β nl 0 t (-1) (q_rn ψ l z.1 r).2.2.2 c0 c1 (nw + 1) (fun w => if w = nw then r else wk w) ni im ∧ MK Z m f f')) ∧ (¬ (0 ≤ x ∧ x ≤ 150 ∧ x ≤ Int32.ofNat nb) → MTz Z m f (F_X10_work N m x (axM Z f)) 1 1) := by
  have hA := h
  obtain ⟨hH, hB, k1, k2, k3, k4, k5, k6, k7, k8, k9, k10⟩ := h
  have hm := hH.1
  have h0 := hm.1
  have hnb := hV.1
  have hnw := hV.2.2.1
  have hni := hV.2.2.2.2.1
  unfold F_X10_work F_X10_work_25
  refine ⟨fun n hx hn hn2 => ?_, fun c => ?_⟩
  · subst hx
    have hin : 0 ≤ Int32.ofNat n ∧ Int32.ofNat n ≤ Int32.ofNat nb := ⟨Int32.not_lt.mp (qi_nn (by omega)), qi_ge hn (by omega)⟩
    rw [m_pi h0, m_gi h0, ax2_j _ _ _ _ _ (by omega), k1, m_in, axB_s, if_pos hin, if_neg (show ¬ (1 : Int32) = 0 by decide), if_pos (show Int32.ofNat n ≤ 150 from qi_ge (j := 150) hn2 (by omega))]
    unfold F_X10_work_30
    rw [m_is h0, qm_badF N h0, m_gi h0, ax2_j _ _ _ _ _ (by omega), k7]
    refine ⟨fun e16 => ?_, fun l16 => ?_⟩
    · rw [if_pos (show Int32.ofNat nw = 16 by rw [e16]; rfl), m_pi h0, m_pi h0]
      refine ⟨_, rfl, hA.x hnw hni ?_ ?_ (fun k hk => ?_) (fun x hx => ?_), ?_, fun x hx => ?_⟩
      · rw [ax2_j _ _ _ _ _ (by omega), ax2_k]
        rfl
      · rw [ax2_k]
      · rw [ax2_j _ _ _ _ _ (by omega), ax2_j _ _ _ _ _ (by omega), ax2_j _ _ _ _ _ (by omega)]
      · unfold scX at hx
        rw [ax2_n _ _ _ _ (by omega), ax2_n _ _ _ _ (by omega), ax2_n _ _ _ _ (by omega)]
      · rw [ax2_j _ _ _ _ _ (by omega), ax2_j _ _ _ _ _ (by omega), ax2_k]
      · rw [ax2_n _ _ _ _ (by omega), ax2_n _ _ _ _ (by omega), ax2_n _ _ _ _ (by omega)]
    obtain ⟨f1, e1, g1, a1, a7, a8, r1, r1m⟩ := qm_starts (N := N) (f := ax2 f m 0 0) (t := t) hN hm (show n ≤ 600 by omega) (fun j hj => by rw [ax2_n _ _ _ _ (by omega)]; exact k2 j hj)
    rw [if_neg (show ¬ Int32.ofNat nw = 16 from qi_ne (j := 16) (by omega) (by omega) (by omega)), m_is h0, e1, axBV_s, m_pi h0]
    have g2 : MT (ax2 f1 m 26 0) m t n (q_bl t n 0) 0 (-1) := g1.j (by omega)
    have L2 : SMl (ax2 f1 m 26 0) m [] := ⟨ax2_k _ _ _ _, fun i q e => (by cases e)⟩
    have hw := hH.2.2.1
    have hG := hH.2.1
    have T0 : ∀ x, x ≠ m → ax2 f1 m 26 0 x = f x := fun x p => by rw [ax2_n _ _ _ _ p, r1 x p, ax2_n _ _ _ _ p]
    have K := qm_row0_l (N := N) (g0 := ax2 f1 m 26 0) (stp := fun len s => q_stp (fun len p => q_RW t n ψ 8 1 len p) t n ψ 0 len s) hN hm hn2 (hV.t hn) (qm_STP hN hm hn2 9 0 (by omega) (by omega)) (fun len p hp => q_stp_f (fun h len p hp => q_RW_f 8 1 len p (by omega) (by omega) hp) hp) (fun len p z e => q_stp_1 e) (by rw [T0 _ (by omega)]; exact rdG_0 hG (show 3 < 7 by omega)) (by rw [T0 _ (by omega)]; exact rdG_0 hG (show 5 < 7 by omega)) 150 0 N [] _ (by omega) (by omega) (Nat.zero_le _) g2 L2 (Nat.zero_le _) (by rw [ax2_j _ _ _ _ _ (by omega), a8]; rfl) (TMr.rf _ _)
    change QMr6 Z m t n (-1) 0 [] (ax2 f1 m 26 0) (F_X10_work_72 N N m (axM Z (ax2 f1 m 26 0))) (F_X10_work_101 N m) (q_RW t n ψ 9 0 0 0) at K
    have G3 : ∀ f3, TMr m (ax2 f1 m 26 0) f3 → (∀ x, x ≠ m → ¬ (m + 360 ≤ x ∧ x ≤ m + 439) → f3 x = f x) ∧ f3 m 0 = 0 ∧ f3 m 1 = 0 ∧ (∀ k, k = 3 ∨ k = 17 ∨ (31 ≤ k ∧ k ≤ 34) → f3 m k = f m k) := fun f3 hr => ⟨fun x p q => by rw [hr.1 x p q, T0 x p], by rw [hr.2 0 (by omega) (by omega) (by omega) (by omega) (by omega), ax2_j _ _ _ _ _ (by omega), r1m 0 (by omega), ax2_k], by rw [hr.2 1 (by omega) (by omega) (by omega) (by omega) (by omega), ax2_j _ _ _ _ _ (by omega), a1], fun k hk => by rw [hr.2 k (by omega) (by omega) (by omega) (by omega) (by omega), ax2_j _ _ _ _ _ (by omega), r1m k (by omega), ax2_j _ _ _ _ _ (by omega)]⟩
    rcases eo : q_RW t n ψ 9 0 0 0 with z | z
    · rw [eo] at K
      obtain ⟨f3, q, y3, g3, hz, r3⟩ := K
      obtain ⟨o3, o30, o31, o3k⟩ := G3 f3 r3
      refine ⟨ax2 f3 m 3 (f3 m 6), ?_, ?_, ?_, fun x hx => ?_⟩
      · rw [y3]
        unfold F_X10_work_101
        rw [m_gi h0, g3.2.2.1, if_neg hz, m_is h0, qm_ends h0, axB_s, g3.2.2.1]
      · refine hA.x hnw hni ?_ ?_ (fun k hk => ?_) (fun x hx => ?_)
        · rw [ax2_j _ _ _ _ _ (by omega), o31]
          rfl
        · rw [ax2_k, g3.2.2.2.1]
        · rw [ax2_j _ _ _ _ _ (by omega), o3k k (by omega)]
        · unfold scX at hx
          rw [ax2_n _ _ _ _ (by omega), o3 x (by omega) (by omega)]
      · rw [ax2_j _ _ _ _ _ (by omega), o30]
      · rw [ax2_n _ _ _ _ (by omega), o3 x (by omega) (by omega)]
    rw [eo] at K
    obtain ⟨f3, y3, g3, s3, h83, r3⟩ := K
    obtain ⟨o3, o30, o31, o3k⟩ := G3 f3 r3
    obtain ⟨z1, z2, z3⟩ := q_ls ψ t n hw eo hn2
    obtain ⟨-, -, -, ⟨l1, l2, l3⟩, hlw, hR, hok, h12⟩ := hH
    obtain ⟨t1, -, t3⟩ := q_rn_x (l := l) hw z1 z2 z3 hok h12
    dsimp only
    generalize q_rn ψ l z.1 r = τ at t1 t3 ⊢
    have p27 : axP Z m 27 = some (m + 440) := hm.2.1 27 440 rfl
    have p29 : axP Z m 29 = some (m + 442) := hm.2.1 29 442 rfl
    have s440 : axL Z (m + 440) = some (1, 29) := hm.2.2.1 440 _ rfl
    have s442 : axL Z (m + 442) = some (3, 16) := hm.2.2.1 442 _ rfl
    obtain ⟨pr, sr⟩ : axP Z (m + 442) nw = some (m + 443 + nw) ∧ axL Z (m + 443 + nw) = some (1, 29) := hm.2.2.2 442 16 29 rfl nw l16
    obtain ⟨f4, x4, y4, r4⟩ := qm_copies (N := N) (f := ax2 f3 m 3 (-1)) (by omega) sr s440 (by omega)
    have q32 : f3 m 32 = Int32.ofNat nw := by rw [o3k 32 (by omega), k7]
    have q432 : f4 m 32 = Int32.ofNat nw := by rw [r4 m (by omega), ax2_j _ _ _ _ _ (by omega), q32]
    have s3' : SMl f3 m z.1 := s3
    have F5 : ∀ F : Nat → Nat → Int32, F = ax2 (ax2 (ax2 (ax2 f4 m 32 (Int32.ofNat (nw + 1))) m 36 0) m 37 0) m 33 0 → MRr Z m ψ l z.1 (r, 0, 0, 0) F ∧ (∀ x, x ≠ m → F x = f4 x) ∧ F m 32 = Int32.ofNat (nw + 1) ∧ (∀ k, k ≠ 32 → k ≠ 33 → k ≠ 36 → k ≠ 37 → F m k = f4 m k) := fun F hF => by
      have oF : ∀ x, x ≠ m → F x = f4 x := fun x p => by rw [hF, ax2_n _ _ _ _ p, ax2_n _ _ _ _ p, ax2_n _ _ _ _ p, ax2_n _ _ _ _ p]
      have oFm : ∀ k, k ≠ 32 → k ≠ 33 → k ≠ 36 → k ≠ 37 → F m k = f4 m k := fun k a b c d => by rw [hF, ax2_j _ _ _ _ _ b, ax2_j _ _ _ _ _ d, ax2_j _ _ _ _ _ c, ax2_j _ _ _ _ _ a]
      have ofar : ∀ x, x ≠ m → ¬ (m + 360 ≤ x ∧ x ≤ m + 439) → x ≠ m + 443 + nw → F x = f x := fun x p q s => by rw [oF x p, r4 x s, ax2_n _ _ _ _ p, o3 x p q]
      refine ⟨⟨⟨hm, ?_, hw, ⟨?_, l2, fun k q hq => ?_⟩, hlw, ?_, hok, h12⟩, s3'.kp (by omega) ?_ fun i hi => ?_, ?_, ?_, ?_⟩, oF, ?_, oFm⟩
      · rw [← hG]
        exact rdG_x fun x hx => ofar x (by omega) (by omega) (by omega)
      · rw [oFm 17 (by omega) (by omega) (by omega) (by omega), r4 m (by omega), ax2_j _ _ _ _ _ (by omega), o3k 17 (by omega), l1]
      · have := (List.getElem?_eq_some_iff.mp hq).1
        rw [ofar _ (by omega) (by omega) (by omega)]
        exact l3 k q hq
      · show rdM F (m + 440) = r
        rw [← hR]
        exact rdM_e fun k _ => by rw [ofar _ (by omega) (by omega) (by omega)]
      · rw [oFm 26 (by omega) (by omega) (by omega) (by omega), r4 m (by omega), ax2_j _ _ _ _ _ (by omega)]
      · rw [oF _ (by omega), r4 _ (by omega), ax2_n _ _ _ _ (by omega)]
      · rw [hF, ax2_j _ _ _ _ _ (by omega), ax2_j _ _ _ _ _ (by omega), ax2_k]
        rfl
      · rw [hF, ax2_j _ _ _ _ _ (by omega), ax2_k]
      · rw [hF, ax2_k]
      · rw [hF, ax2_j _ _ _ _ _ (by omega), ax2_j _ _ _ _ _ (by omega), ax2_j _ _ _ _ _ (by omega), ax2_k]
    obtain ⟨G5, oF, F32, oFm⟩ := F5 _ rfl
    obtain ⟨f6, x6, G6, r6⟩ := t3 Z m N N 9 _ hN (by omega) (by omega) G5
    have x6' : G_X10_goes N m 0 (Int32.ofNat z.1.length) (axM Z (ax2 (ax2 (ax2 (ax2 f4 m 32 (Int32.ofNat (nw + 1))) m 36 0) m 37 0) m 33 0)) = some (axM Z f6) := x6
    have len5 := G5.2.1.1
    generalize hF5 : ax2 (ax2 (ax2 (ax2 f4 m 32 (Int32.ofNat (nw + 1))) m 36 0) m 37 0) m 33 0 = F at G5 oF F32 oFm x6 x6' r6 len5
    have o6 : ∀ x, x ≠ m → x ≠ m + 357 → x ≠ m + 358 → x ≠ m + 440 → ¬ (m + 360 ≤ x ∧ x ≤ m + 439) → x ≠ m + 443 + nw → f6 x = f x := fun x p a c d q s => by rw [r6.1 x (by omega), oF x p, r4 x s, ax2_n _ _ _ _ p, o3 x p q]
    have o6m : ∀ k, k ≠ 3 → k ≠ 32 → k ≠ 33 → k ≠ 36 → k ≠ 37 → f6 m k = f3 m k := fun k a b c d e => by rw [r6.2 k c d e, oFm k b c d e, r4 m (by omega), ax2_j _ _ _ _ _ a]
    refine ⟨f6, ?_, ⟨G6.1, hB.x (by rw [o6m 31 (by omega) (by omega) (by omega) (by omega) (by omega), o3k 31 (by omega)]) (fun x p q => o6 x (by omega) (by omega) (by omega) (by omega) (by omega) (by omega)), ?_, fun j hj => ?_, ?_, G6.2.2.2.2, ?_, ?_, ?_, fun w hw => ?_, ?_, fun i hi => ?_⟩, ?_, fun x hx => o6 x (by omega) (by omega) (by omega) (by omega) (by omega) (by omega)⟩
    · rw [y3]
      unfold F_X10_work_101
      rw [m_gi h0, g3.2.2.1, if_pos rfl, m_pi h0, m_gr h0 p27, m_gr h0 p29, m_gi h0, ax2_j _ _ _ _ _ (show (32 : Nat) ≠ 3 by omega), q32, m_ldrn (t := 0) s442 (by omega) l16 (by omega) pr, x4, axBV_s, m_gi h0, q432, m_pi h0, m_pi h0, m_pi h0, m_pi h0, qi_s, hF5, m_gi h0, len5, m_is h0, x6', axBV_s, m_gi h0, G6.2.2.2.1]
    · rw [o6m 1 (by omega) (by omega) (by omega) (by omega) (by omega), o31]
      rfl
    · rw [o6 _ (by omega) (by omega) (by omega) (by omega) (by omega) (by omega), k2 j hj]
    · rw [r6.2 3 (by omega) (by omega) (by omega), oFm 3 (by omega) (by omega) (by omega) (by omega), r4 m (by omega), ax2_k]
    · rw [o6 _ (by omega) (by omega) (by omega) (by omega) (by omega) (by omega), k5]
    · rw [o6 _ (by omega) (by omega) (by omega) (by omega) (by omega) (by omega), k6]
    · rw [r6.2 32 (by omega) (by omega) (by omega), F32]
    · show rdM f6 (m + 443 + w) = (if w = nw then r else wk w)
      by_cases c : w = nw
      · rw [if_pos c, c, rdM_e (g := f4) (b := m + 443 + nw) (fun k _ => by rw [r6.1 _ (by omega), oF _ (by omega)]), y4, ← hR]
        exact rdM_e fun k _ => by rw [ax2_n _ _ _ _ (by omega), o3 _ (by omega) (by omega)]
      · rw [if_neg c, ← k8 w (by omega)]
        exact rdM_e fun k _ => by rw [o6 _ (by omega) (by omega) (by omega) (by omega) (by omega) (by omega)]
    · rw [o6m 34 (by omega) (by omega) (by omega) (by omega) (by omega), o3k 34 (by omega), k9]
    · obtain ⟨v1, v2, v3⟩ := k10 i hi
      have ei := o6 (m + 460 + i) (by omega) (by omega) (by omega) (by omega) (by omega) (by omega)
      unfold rdI at v2 v3 ⊢
      rw [ei]
      exact ⟨v1, v2, v3⟩
    · rw [o6m 0 (by omega) (by omega) (by omega) (by omega) (by omega), o30]
  · unfold F_X10_work_30
    rw [m_pi h0, m_gi h0, ax2_j _ _ _ _ _ (by omega), k1, m_in, axB_s]
    by_cases c1 : 0 ≤ x ∧ x ≤ Int32.ofNat nb
    · rw [if_pos c1, if_neg (show ¬ (1 : Int32) = 0 by decide), if_neg (fun q => c ⟨c1.1, q, c1.2⟩), m_is h0]
      exact qm_badT1 N hm _ _
    · rw [if_neg c1, if_pos rfl, m_is h0]
      exact qm_badT1 N hm _ _
end
