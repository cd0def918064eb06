/-! the book: told -/
section
variable {Z : AxS} {b m N : Nat} {f g : Nat → Nat → Int32} {ψ : QF} {l : QL} {r β : QR} {nl nb : Nat} {t : QR} {pl rs c0 c1 : Int32} {nw : Nat} {wk : Nat → QR} {ni : Nat} {im : QI}
def q_book (t : QR) (n : Nat) : QO3 := q_lns t n 101 0 (fun _ => -1) 0
theorem qc_book (hN : 2000 < N) (h : CA Z b f ψ l r β nl nb t pl rs c0 c1 nw wk ni im) (hV : VA ψ nb t nw wk ni im) (x : Int32) : (∀ n, x = Int32.ofNat n → n ≤ nb → n ≤ 100 → match q_book t n with
    | .inl z => ∃ Z' f', F_X9_book N b x (axM Z f) = some (.inl (z.1 - 10), axM Z' f') ∧ CA Z' b f' ψ l r β nl 0 t z.2 rs c0 c1 nw wk ni im ∧ CFa b f f' ∧ CZa b Z Z'
    | .inr z => ∃ Z' f', F_X9_book N b x (axM Z f) = some (.inl (Int32.ofNat z.2), axM Z' f') ∧ CA Z' b f' ψ l r z.1 z.2 0 t (-1) rs c0 c1 nw wk ni im ∧ CFa b f f' ∧ CZa b Z Z') ∧ (¬ (0 ≤ x ∧ x ≤ 100 ∧ x ≤ Int32.ofNat nb) → CTz Z b f (F_X9_book N b x (axM Z f)) q_iae 15) := by
  have hRS := h.rst
  obtain ⟨⟨fa, sf, la, sl, bo, sb, hH, hB⟩, hK, hT, k1, k2, k3, -⟩ := h
  obtain ⟨hC, hF, hw, hl, hlw, hR, hok⟩ := hH
  have hCC := hC
  obtain ⟨⟨a0, a1, a2, a3, a4, a5, a6⟩, ⟨d1, d2, d3, d4, d5, d6⟩, q1, q2, q3, ⟨e0, e1⟩, -⟩ := hCC
  obtain ⟨hnb, hVt, hnw, -, hni, him⟩ := id hV
  have hsb : b + 1 + 1 < sb ∧ b + 22 < sb ∧ sb + 1 < b + 27 := by clear q1 q2; omega
  have hla : b + 14 < la ∧ la + 3 < b + 23 := by clear q1 q3; omega
  have hbs : bo + 1 < sb ∨ sb + 1 < bo := by clear q1 q2; omega
  have hfa : b + 2 < fa ∧ fa + 5 < b + 15 := by clear q2 q3; omega
  have hbo : b + 22 < bo ∧ bo + 1 < b + 27 := by clear q1 q2; omega
  clear q1 q2 q3
  unfold F_X9_book F_X9_book_26
  refine ⟨fun n hx hn hn2 => ?_, fun c => ?_⟩
  · subst hx
    have hu := e1.1
    obtain ⟨f1, x1, g1, u1, r1⟩ := q_open (N := N) (f := f) (t := t) hu (show n ≤ 600 by omega) k2
    obtain ⟨f9, x9, B9, r9⟩ := qc_bclear (N := N) (f := f1) (by omega) d6
    have g9 : CT f9 (b + 1) t n 0 0 (-1) := RFc.ct g1 (r9 _ (by omega) (by omega)) (r9 _ (by omega) (by omega))
    have K := qc_lines (f0 := f9) hN e1 d6 hsb.1 (hV.t hn) 101 0 0 N (fun _ => -1) f9 (by omega) (by omega) (by omega) g9 B9 (LFr.rf _ _ _)
    rw [if_neg (qi_nn (by omega)), if_neg (show ¬ (100 : Int32) < Int32.ofNat n from qi_ngt (i := 100) hn2 (by omega)), m_gr a0 e0, m_gi hu, k1, if_neg (qi_ngt hn (by omega))]
    unfold F_X9_book_27 F_X0_readFrom
    rw [qc_needO a0, m_gr a0 e0, m_is hu, x1, axBV_s, m_gr a0 a6, m_gr a0 e0, m_is d6.1, m_is d6.1, x9, axBV_s]
    change (match q_book t n with
      | .inl z => ∃ f' q, F_X0_readFrom_6 N N sb (b + 1) 0 (axM Z f9) = some (0, axM Z f') ∧ CT f' (b + 1) t n q z.1 z.2 ∧ LFr (b + 1) sb f9 f'
      | .inr z => ∃ f' q, F_X0_readFrom_6 N N sb (b + 1) 0 (axM Z f9) = some (1, axM Z f') ∧ CT f' (b + 1) t n q 0 (-1) ∧ clB f' sb z.1 z.2 ∧ LFr (b + 1) sb f9 f') at K
    have G2 : ∀ f2, LFr (b + 1) sb f9 f2 → (∀ x, x ≠ b + 1 → x ≠ sb → x ≠ sb + 1 → f2 x = f x) ∧ f2 (b + 1) 1 = 0 := fun f2 hr => ⟨fun x p q s => by rw [hr.1 x p q s, r9 x q s, r1 x p], by rw [hr.2, r9 _ (by omega) (by omega), u1]⟩
    rcases eo : q_book t n with z | z
    · rw [eo] at K
      obtain ⟨f2, q, x2, g2, hr2⟩ := K
      obtain ⟨o2, u2⟩ := G2 f2 hr2
      refine ⟨Z, f2, ?_, CA.mk ⟨fa, sf, la, sl, bo, sb, ⟨hC, ?_, hw, hl.e (o2 _ (by omega) (by omega) (by omega)) (o2 _ (by omega) (by omega) (by omega)), hlw, ?_, hok⟩, ?_⟩ ?_ hT u2 g2.2.2.2.1 (hRS.e hnw hni (fun i hi => (him i hi).1) fun x hx => o2 x (by omega) (by omega) (by omega)), fun x hx => o2 x (by omega) (by omega) (by omega), CZa.rf _ _⟩
      · rw [x2, axB_s, if_pos rfl, m_gr a0 e0, m_gi hu, g2.2.2.1]
      · rw [← hF]
        exact rdF_e fun x p q => o2 x (by omega) (by omega) (by omega)
      · rw [← hR]
        exact rdSt_e (o2 _ (by omega) (by omega) (by omega)) (o2 _ (by omega) (by omega) (by omega)) (o2 _ (by omega) (by omega) (by omega))
      · unfold clB at hB ⊢
        rw [o2 bo (by omega) (by omega) (by omega), o2 (bo + 1) (by omega) (by omega) (by omega)]
        exact hB
      · exact fitC.e hK fun x p q => o2 x (by omega) (by omega) (by omega)
    · rw [eo] at K
      obtain ⟨f2, q, x2, g2, L2, hr2⟩ := K
      obtain ⟨o2, u2⟩ := G2 f2 hr2
      have hC' := hC.swb
      have hfi := hC'.fi
      have z0 : axL (q_sw Z b 5 bo sb) b = some (0, 9) := a0
      have o3 : ∀ x, x ≠ b + 1 → x ≠ sb → x ≠ sb + 1 → x ≠ b + 88 → ax2 f2 (b + 88) 0 0 x = f x := fun x p q s v => by rw [ax2_n _ _ _ _ v, o2 x p q s]
      have hBk := hC'.bk
      refine ⟨q_sw Z b 5 bo sb, ax2 f2 (b + 88) 0 0, ?_, CA.mk ⟨fa, sf, la, sl, sb, bo, ⟨hC', ?_, hw, hl.e (o3 _ (by omega) (by omega) (by omega) (by omega)) (o3 _ (by omega) (by omega) (by omega) (by omega)), hlw, ?_, hok⟩, ?_⟩ (Or.inl (ax2_k _ _ _ _)) (hT.z rfl rfl) ?_ ?_ (hRS.e hnw hni (fun i hi => (him i hi).1) fun x hx => o3 x (by omega) (by omega) (by omega) (by omega)), fun x hx => o3 x (by omega) (by omega) (by omega) (by omega), CZa.sw _ _ _ _ _⟩
      · rw [x2, axB_s, if_neg (show ¬ (1 : Int32) = 0 by decide), m_gr a0 a6, m_gr a0 a5, m_pr a0, m_pr (Z := axSP Z b 6 (some bo)) a0, show axSP (axSP Z b 6 (some bo)) b 5 (some sb) = q_sw Z b 5 bo sb from rfl, m_gr z0 hfi.1.1, m_pi hfi.1.2, m_gr z0 hBk.1, m_gi hBk.2.1, ax2_n _ _ _ _ (by omega), L2.1]
      · rw [← hF]
        exact rdF_e fun x p q => o3 x (by omega) (by omega) (by omega) (by omega)
      · rw [← hR]
        exact rdSt_e (o3 _ (by omega) (by omega) (by omega) (by omega)) (o3 _ (by omega) (by omega) (by omega) (by omega)) (o3 _ (by omega) (by omega) (by omega) (by omega))
      · unfold clB at L2 ⊢
        rw [ax2_n _ _ _ _ (by omega), ax2_n _ _ _ _ (by omega)]
        exact L2
      · rw [ax2_n _ _ _ _ (by omega), u2]
        rfl
      · rw [ax2_n _ _ _ _ (by omega)]
        exact g2.2.2.2.1
  · unfold F_X9_book_27
    have key : ∀ K : Unit → AxS → Option (AxT Int32), CTz Z b f (ax_is (axM Z f) b 9 (axBT (F_X9_needArgument N b 0 (axM Z f)) K)) q_iae 15 := fun K => by
      rw [qc_needT a0]
      exact ⟨_, rfl, fun _ _ => rfl⟩
    by_cases c1 : x < 0
    · rw [if_pos c1]
      exact key _
    rw [if_neg c1]
    by_cases c2 : 100 < x
    · rw [if_pos c2]
      exact key _
    rw [if_neg c2, m_gr a0 e0, m_gi e1.1, k1, if_pos (Int32.not_le.mp fun q => c ⟨Int32.not_lt.mp c1, Int32.not_lt.mp c2, q⟩)]
    exact key _
-- the model's
theorem qm_layb_10 (hm : LMo Z m) {i M : Nat} (hi : i < 8) (hM : i < M) (K2 : Nat → Nat → Int32 → Int32 → AxS → Option AxS) : ∀ (n j fu : Nat) (f : Nat → Nat → Int32), j + n = 2 → n < fu → ∃ f', F_X10_lays_10 N K2 fu (m + 348) (m + 339) (Int32.ofNat M) (Int32.ofNat i) (Int32.ofNat j) (axM Z f) = K2 (m + 348) (m + 339) (Int32.ofNat M) (Int32.ofNat (i + 1)) (axM Z f') ∧ (∀ k, k < 2 → f' (m + 340 + i) k = if j ≤ k then f (m + 349 + i) k else f (m + 340 + i) k) ∧ ∀ x, x ≠ m + 340 + i → f' x = f x := by
  have s7 : axL Z (m + 348) = some (3, 8) := hm.2.2.1 348 _ rfl
  have s12 : axL Z (m + 339) = some (3, 8) := hm.2.2.1 339 _ rfl
  obtain ⟨pr, sr⟩ : axP Z (m + 348) i = some (m + 349 + i) ∧ axL Z (m + 349 + i) = some (1, 2) := hm.2.2.2 348 8 2 rfl i hi
  obtain ⟨pq, sq⟩ : axP Z (m + 339) i = some (m + 340 + i) ∧ axL Z (m + 340 + i) = some (1, 2) := hm.2.2.2 339 8 2 rfl i hi
  intro n
  induction n with
  | zero =>
    intro j fu f hj hfu
    obtain ⟨fu, rfl⟩ : ∃ q, fu = q + 1 := ⟨fu - 1, by omega⟩
    show ∃ f', F_X10_lays_10b N K2 (F_X10_lays_10 N K2 fu) (m + 348) (m + 339) (Int32.ofNat M) (Int32.ofNat i) (Int32.ofNat j) (axM Z f) = _ ∧ _
    unfold F_X10_lays_10b
    rw [m_ldrn (t := 0) s12 (by omega) hi (by omega) pq, m_len (t := 0) sq (by omega), if_pos (qi_ge (by omega) (by omega)), qi_s]
    exact ⟨f, rfl, fun k hk => by rw [if_neg (by omega)], fun _ _ => rfl⟩
  | succ n ih =>
    intro j fu f hj hfu
    obtain ⟨fu, rfl⟩ : ∃ q, fu = q + 1 := ⟨fu - 1, by omega⟩
    show ∃ f', F_X10_lays_10b N K2 (F_X10_lays_10 N K2 fu) (m + 348) (m + 339) (Int32.ofNat M) (Int32.ofNat i) (Int32.ofNat j) (axM Z f) = _ ∧ _
    unfold F_X10_lays_10b
    rw [m_ldrn (t := 0) s12 (by omega) hi (by omega) pq, m_len (t := 0) sq (by omega), if_neg (qi_nge (by omega) (by omega)), m_ldrn (t := 0) s12 (by omega) hi (by omega) pq, m_ldrn (t := 0) s7 (by omega) hi (by omega) pr, m_ldn sr (show j < 2 by omega) (by omega), m_stn sq (show j < 2 by omega) (by omega), qi_s]
    obtain ⟨f2, e2, g2, r2⟩ := ih (j + 1) fu (ax2 f (m + 340 + i) j (f (m + 349 + i) j)) (by omega) (by omega)
    refine ⟨f2, e2, fun k hk => ?_, fun x hx => by rw [r2 x hx, ax2_n _ _ _ _ hx]⟩
    rw [g2 k hk, ax2_n _ _ _ _ (by omega)]
    by_cases c : j + 1 ≤ k
    · rw [if_pos c, if_pos (by omega)]
    · rw [if_neg c]
      by_cases c2 : k = j
      · rw [c2, ax2_k, if_pos (Nat.le_refl _)]
      · rw [ax2_j _ _ _ _ _ c2, if_neg (by omega)]
theorem qm_layb (hN : 2000 < N) (hm : LMo Z m) {M : Nat} (hM : M ≤ 8) : ∃ f', F_X10_lays N (m + 348) (m + 339) (Int32.ofNat M) (axM Z f) = some (axM Z f') ∧ (∀ i, i < M → ∀ k, k < 2 → f' (m + 340 + i) k = f (m + 349 + i) k) ∧ ∀ x, ¬ (m + 340 ≤ x ∧ x ≤ m + 347) → f' x = f x := by
  have loop : ∀ (n i fu : Nat) (g : Nat → Nat → Int32), i + n = M → n < fu → (∀ x, ¬ (m + 340 ≤ x ∧ x ≤ m + 347) → g x = f x) → (∀ j, j < i → ∀ k, k < 2 → g (m + 340 + j) k = f (m + 349 + j) k) → ∃ f', F_X10_lays_2 N fu (m + 348) (m + 339) (Int32.ofNat M) (Int32.ofNat i) (axM Z g) = some (axM Z f') ∧ (∀ i, i < M → ∀ k, k < 2 → f' (m + 340 + i) k = f (m + 349 + i) k) ∧ ∀ x, ¬ (m + 340 ≤ x ∧ x ≤ m + 347) → f' x = f x := by
    intro n
    induction n with
    | zero =>
      intro i fu g hi hfu hg hd
      obtain ⟨fu, rfl⟩ : ∃ q, fu = q + 1 := ⟨fu - 1, by omega⟩
      show ∃ f', F_X10_lays_2b N (F_X10_lays_2 N fu) (m + 348) (m + 339) (Int32.ofNat M) (Int32.ofNat i) (axM Z g) = _ ∧ _
      unfold F_X10_lays_2b
      rw [if_pos (qi_ge (by omega) (by omega))]
      exact ⟨g, rfl, fun j hj => hd j (by omega), hg⟩
    | succ n ih =>
      intro i fu g hi hfu hg hd
      obtain ⟨fu, rfl⟩ : ∃ q, fu = q + 1 := ⟨fu - 1, by omega⟩
      show ∃ f', F_X10_lays_2b N (F_X10_lays_2 N fu) (m + 348) (m + 339) (Int32.ofNat M) (Int32.ofNat i) (axM Z g) = _ ∧ _
      unfold F_X10_lays_2b
      rw [if_neg (qi_nge (by omega) (by omega))]
      obtain ⟨g2, e2, h2, r2⟩ := qm_layb_10 (N := N) hm (show i < 8 by omega) (show i < M by omega) (F_X10_lays_2 N fu) 2 0 N g (by omega) (by omega)
      rw [show F_X10_lays_10 N (F_X10_lays_2 N fu) N (m + 348) (m + 339) (Int32.ofNat M) (Int32.ofNat i) 0 (axM Z g) = _ from e2]
      refine ih (i + 1) fu g2 (by omega) (by omega) (fun x hx => by rw [r2 x (by omega), hg x hx]) fun j hj k hk => ?_
      by_cases c : j = i
      · rw [c, h2 k hk, if_pos (Nat.zero_le _), hg _ (by omega)]
      · rw [r2 _ (by omega)]
        exact hd j (by omega) k hk
  exact loop M 0 N f (by omega) (by omega) (fun _ _ => rfl) (fun j hj => absurd hj (by omega))

theorem qm_book (hN : 2000 < N) (h : MA Z m f ψ l r β nl nb t pl rs c0 c1 nw wk ni im) (hV : VA ψ nb t nw wk ni im) (x : Int32) : (∀ n, x = Int32.ofNat n → n ≤ nb → n ≤ 100 → match q_book t n with
    | .inl z => ∃ f', F_X10_book N m x (axM Z f) = some (z.1 - 10, axM Z f') ∧ MA Z m f' ψ l r β nl 0 t z.2 rs c0 c1 nw wk ni im ∧ MK Z m f f'
    | .inr z => ∃ f', F_X10_book N m x (axM Z f) = some (Int32.ofNat z.2, axM Z f') ∧ MA Z m f' ψ l r z.1 z.2 0 t (-1) rs c0 c1 nw wk ni im ∧ MK Z m f f') ∧ (¬ (0 ≤ x ∧ x ≤ 100 ∧ x ≤ Int32.ofNat nb) → MTz Z m f (F_X10_book N m x (axM Z f)) 1 1) := by
  have hA := h
  obtain ⟨hH, hB, k1, k2, k3, k4, k5, k6, k7, k8, k9, k10⟩ := h
  have hm := hH.1
  have h0 := hm.1
  have hnb := hV.1
  unfold F_X10_book F_X10_book_24
  refine ⟨fun n hx hn hn2 => ?_, fun c => ?_⟩
  · subst hx
    have hin : 0 ≤ Int32.ofNat n ∧ Int32.ofNat n ≤ Int32.ofNat nb := ⟨Int32.not_lt.mp (qi_nn (by omega)), qi_ge hn (by omega)⟩
    rw [m_pi h0, m_gi h0, ax2_j _ _ _ _ _ (by omega), k1, m_in, axB_s, if_pos hin, if_neg (show ¬ (1 : Int32) = 0 by decide), if_pos (show Int32.ofNat n ≤ 100 from qi_ge (j := 100) hn2 (by omega))]
    unfold F_X10_book_29
    rw [m_is h0, qm_badF N h0]
    obtain ⟨f1, e1, g1, a1, a7, a8, r1, r1m⟩ := qm_starts (N := N) (f := ax2 f m 0 0) (t := t) hN hm (show n ≤ 600 by omega) (fun j hj => by rw [ax2_n _ _ _ _ (by omega)]; exact k2 j hj)
    have K := qm_lines (g0 := f1) hN hm 101 0 0 N (fun _ => -1) f1 (by omega) (by omega) (Nat.zero_le _) g1 ⟨by omega, fun _ => 0, fun k hk => absurd hk (Nat.not_lt_zero _), fun i _ hi => absurd rfl hi⟩ (BFr.rf _ _)
    change QBm Z m t n (-1) N f1 (F_X10_book_46 N N m 0 (axM Z f1)) (q_book t n) at K
    rw [m_is h0, e1, axBV_s]
    have LF := (q_lns_f (t := t) (n := n) 101 0 (fun _ => -1) 0 (Nat.zero_le _) (by omega)).2
    change ∀ z, q_book t n = .inr z → z.2 ≤ 8 at LF
    have G3 : ∀ f3, BFr m f1 f3 → (∀ x, x ≠ m → ¬ (m + 349 ≤ x ∧ x ≤ m + 356) → f3 x = f x) ∧ f3 m 0 = 0 ∧ f3 m 1 = 0 ∧ (∀ k, 17 ≤ k → f3 m k = f m k) := fun f3 hr => ⟨fun x p q => by rw [hr.1 x p q, r1 x p, ax2_n _ _ _ _ p], by rw [hr.2 0 (by omega) (by omega) (by omega), r1m 0 (by omega), ax2_k], by rw [hr.2 1 (by omega) (by omega) (by omega), a1], fun k hk => by rw [hr.2 k (by omega) (by omega) (by omega), r1m k (by omega), ax2_j _ _ _ _ _ (by omega)]⟩
    rcases eo : q_book t n with z | z
    · rw [eo] at K
      obtain ⟨g, q, v, y3, hg, hz, hr⟩ := K
      obtain ⟨o3, o30, o31, o3k⟩ := G3 g hr
      rw [y3]
      refine ⟨ax2 g m 3 (g m 6), ?_, ?_, ?_, fun x hx => ?_⟩
      · unfold F_X10_book_192
        rw [m_gi h0, hg.2.2.1, if_neg hz, m_is h0, qm_ends h0, axB_s, hg.2.2.1]
      · refine hA.x hV.2.2.1 hV.2.2.2.2.1 ?_ ?_ (fun k hk => ?_) (fun x hx => ?_)
        · rw [ax2_j _ _ _ _ _ (by omega), o31]
          rfl
        · rw [ax2_k, hg.2.2.2.1]
        · rw [ax2_j _ _ _ _ _ (by omega), o3k k (by omega)]
        · unfold scX at hx
          rw [ax2_n _ _ _ _ (by omega), o3 x (by omega) (by omega)]
      · rw [ax2_j _ _ _ _ _ (by omega), o30]
      · rw [ax2_n _ _ _ _ (by omega), o3 x (by omega) (by omega)]
    · have h8 := LF z eo
      rw [eo] at K
      obtain ⟨g, q, y3, hg, hL, hr⟩ := K
      obtain ⟨o3, o30, o31, o3k⟩ := G3 g hr
      obtain ⟨f6, y6, x6, r6⟩ := qm_layb (N := N) (f := ax2 (ax2 g m 3 (-1)) m 31 (Int32.ofNat z.2)) hN hm h8
      have o6 : ∀ x, x ≠ m → ¬ (m + 340 ≤ x ∧ x ≤ m + 347) → ¬ (m + 349 ≤ x ∧ x ≤ m + 356) → f6 x = f x := fun x p q s => by rw [r6 x q, ax2_n _ _ _ _ p, ax2_n _ _ _ _ p, o3 x p s]
      have o6m : ∀ k, k ≠ 3 → k ≠ 31 → f6 m k = g m k := fun k p q => by rw [r6 m (by omega), ax2_j _ _ _ _ _ q, ax2_j _ _ _ _ _ p]
      obtain ⟨-, I, I1, I2⟩ := hL
      rw [y3]
      refine ⟨f6, ?_, ⟨hH.x (by rw [o6m 17 (by omega) (by omega), o3k 17 (by omega)]) (fun x hx => o6 x (by omega) (by omega) (by omega)), ⟨?_, h8, I, fun k hk => ?_, I2⟩, ?_, fun j hj => by rw [o6 (m + 1) (by omega) (by omega) (by omega), k2 j hj], ?_, ?_, ?_, ?_, ?_, fun w hw => ?_, ?_, fun i hi => ?_⟩, ?_, fun x hx => o6 x (by omega) (by omega) (by omega)⟩
      · unfold F_X10_book_192
        rw [m_gi h0, hg.2.2.1, if_pos rfl, m_pi h0, m_pi h0, m_gr h0 (hm.2.1 22 348 rfl), m_gr h0 (hm.2.1 21 339 rfl), y6, axBV_s]
      · rw [r6 m (by omega), ax2_k]
      · rw [x6 k hk 0 (by omega), x6 k hk 1 (by omega), ax2_n _ _ _ _ (by omega), ax2_n _ _ _ _ (by omega)]
        exact I1 k hk
      · rw [o6m 1 (by omega) (by omega), o31]
        rfl
      · rw [r6 m (by omega), ax2_j _ _ _ _ _ (by omega), ax2_k]
      · rw [o6m 33 (by omega) (by omega), o3k 33 (by omega), k4]
      · rw [o6 (m + 2) (by omega) (by omega) (by omega), k5]
      · rw [o6 (m + 2) (by omega) (by omega) (by omega), k6]
      · rw [o6m 32 (by omega) (by omega), o3k 32 (by omega), k7]
      · have := hV.2.2.1
        rw [← k8 w hw]
        exact rdM_e fun k _ => by rw [o6 _ (by omega) (by omega) (by omega)]
      · rw [o6m 34 (by omega) (by omega), o3k 34 (by omega), k9]
      · have := hV.2.2.2.2.1
        obtain ⟨v1, v2, v3⟩ := k10 i hi
        have ei := o6 (m + 460 + i) (by omega) (by omega) (by omega)
        unfold rdI at v2 v3 ⊢
        rw [ei]
        exact ⟨v1, v2, v3⟩
      · rw [o6m 0 (by omega) (by omega), o30]
  · unfold F_X10_book_29
    rw [m_pi h0, m_gi h0, ax2_j _ _ _ _ _ (by omega), k1, m_in, axB_s]
    by_cases c1 : 0 ≤ x ∧ x ≤ Int32.ofNat nb
    · rw [if_pos c1, if_neg (show ¬ (1 : Int32) = 0 by decide), if_neg (fun q => c ⟨c1.1, q, c1.2⟩), m_is h0]
      exact qm_badT1 N hm _ _
    · rw [if_neg c1, if_pos rfl, m_is h0]
      exact qm_badT1 N hm _ _
end
