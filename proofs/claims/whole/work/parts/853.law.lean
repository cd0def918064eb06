/-! the law: told -/
section
variable {Z : AxS} {b m N : Nat} {f g : Nat → Nat → Int32} {ψ : QF} {l : QL} {r β : QR} {nl nb : Nat} {t : QR} {pl rs c0 c1 : Int32} {nw : Nat} {wk : Nat → QR} {ni : Nat} {im : QI}
/-- what lies apart of facts, law and lines -/
def CRs (b : Nat) (f : Nat → Nat → Int32) (t : QR) (rs c0 c1 : Int32) (nw : Nat) (wk : Nat → QR) (ni : Nat) (im : QI) : Prop := (∀ j, j < 600 → f (b + 2) j = t j) ∧ f b 13 = rs ∧ f b 14 = c0 ∧ f b 15 = c1 ∧ f (b + 37) 1 = Int32.ofNat nw ∧ (∀ w, w < nw → rdSt f (b + 39 + 3 * w) = wk w) ∧ f b 12 = Int32.ofNat ni ∧ ∀ i, i < ni → f (b + 158 + 54 * i) 1 = Int32.ofNat (im i).1 ∧ rdSt f (b + 155 + 54 * i) = (im i).2.1 ∧ ∀ w, w < (im i).1 → rdSt f (b + 160 + 54 * i + 3 * w) = (im i).2.2 w
theorem CA.rst (h : CA Z b f ψ l r β nl nb t pl rs c0 c1 nw wk ni im) : CRs b f t rs c0 c1 nw wk ni im := ⟨h.2.2.2.2.1, h.2.2.2.2.2.2⟩
theorem CA.mk (h1 : ∃ fa sf la sl bo sb, HC Z b fa sf la sl bo sb f ψ l r ∧ clB f bo β nl) (h2 : fitC f b ψ l β) (h3 : TXz Z) (h4 : f (b + 1) 1 = Int32.ofNat nb) (h5 : f (b + 1) 5 = pl) (h : CRs b f t rs c0 c1 nw wk ni im) : CA Z b f ψ l r β nl nb t pl rs c0 c1 nw wk ni im := ⟨h1, h2, h3, h4, h.1, h5, h.2⟩
theorem CRs.e (h : CRs b f t rs c0 c1 nw wk ni im) (hnw : nw ≤ 16) (hni : ni ≤ 3) (him : ∀ i, i < ni → (im i).1 ≤ 16) (e : ∀ x, x = b ∨ x = b + 2 ∨ (b + 37 ≤ x ∧ x ≤ b + 87) ∨ (b + 154 ≤ x ∧ x ≤ b + 315) → g x = f x) : CRs b g t rs c0 c1 nw wk ni im := by
  obtain ⟨k2, k4, k5, k6, k7, k8, k9, k10⟩ := h
  have eb := e b (by omega)
  refine ⟨fun j hj => by rw [e (b + 2) (by omega), k2 j hj], by rw [eb, k4], by rw [eb, k5], by rw [eb, k6], by rw [e (b + 37) (by omega), k7], fun w hw => ?_, by rw [eb, k9], fun i hi => ?_⟩
  · rw [← k8 w hw]
    exact rdSt_e (e _ (by omega)) (e _ (by omega)) (e _ (by omega))
  · obtain ⟨v1, v2, v3⟩ := k10 i hi
    refine ⟨by rw [e (b + 158 + 54 * i) (by omega), v1], ?_, fun w hw => ?_⟩
    · rw [← v2]
      exact rdSt_e (e _ (by omega)) (e _ (by omega)) (e _ (by omega))
    · have := him i hi
      rw [← v3 w hw]
      exact rdSt_e (e _ (by omega)) (e _ (by omega)) (e _ (by omega))
theorem q_un_s {n op p : Nat} {kr : Nat → QO2} (hss : q_bl t n (q_bl t n p) = q_bl t n p) : q_un kr t n op (q_bl t n p) = q_un kr t n op p := by
  have e1 : ∀ lo hi, q_nb t n (q_bl t n p) lo hi = q_nb t n p lo hi := fun lo hi => by
    unfold q_nb
    rw [hss]
  have e2 : q_nfk t n (q_bl t n p) = q_nfk t n p := by
    unfold q_nfk
    rw [hss]
  unfold q_un
  rw [hss, e1, e2]
theorem q_SM_s {n op p : Nat} (hss : q_bl t n (q_bl t n p) = q_bl t n p) (d : Nat) : q_SM t n d op (q_bl t n p) = q_SM t n d op p := by
  cases d with
  | zero => rfl
  | succ d =>
    show q_bd (q_bd (q_un _ t n op (q_bl t n p)) _) _ = q_bd (q_bd (q_un _ t n op p) _) _
    rw [q_un_s hss]
def q_law (t : QR) (n : Nat) : Sum (Int32 × Int32) QL := q_bd (q_SM t n 9 0 0) fun a => if n ≤ q_bl t n a.2 then .inr a.1 else .inl (1, Int32.ofNat (q_bl t n a.2))
theorem q_law_f {n : Nat} : (∀ z, q_law t n = .inl z → z.1 ≠ 0) ∧ ∀ z, q_law t n = .inr z → z.length ≤ n ∧ q_wf z 0 := by
  have hf := q_SM_f (t := t) (n := n) 9 0 0 (by omega) (by omega) (Nat.zero_le _)
  unfold q_law
  rcases e1 : q_SM t n 9 0 0 with z | a
  · rw [q_bd_l rfl]
    exact ⟨fun y e => (by cases e; exact hf.1 z e1), fun y e => (by cases e)⟩
  rw [q_bd_r rfl]
  obtain ⟨a1, a2, a3, a4⟩ := hf.2 a e1
  by_cases c : n ≤ q_bl t n a.2
  · rw [if_pos c]
    refine ⟨fun y e => (by cases e), fun y e => ?_⟩
    cases e
    have w := a4 [] 0 (by omega) rfl
    rw [List.append_nil] at w
    exact ⟨by omega, w⟩
  · rw [if_neg c]
    exact ⟨fun y e => (by cases e; exact (show ¬ (1 : Int32) = 0 by decide)), fun y e => (by cases e)⟩
theorem q_open {u n : Nat} (h0 : axL Z u = some (0, 7)) (hn : n ≤ 600) (ht : ∀ j, j < 600 → f (u + 1) j = t j) : ∃ f', F_X7_open N u (Int32.ofNat n) (axM Z f) = some (axM Z f') ∧ CT f' u t n 0 0 (-1) ∧ f' u 1 = 0 ∧ ∀ x, x ≠ u → f' x = f x := by
  unfold F_X7_open
  rw [m_pi h0, m_pi h0, m_pi h0, m_pi h0, m_pi h0]
  exact ⟨_, rfl, ⟨by simp [ax2_a], by simp [ax2_a], by simp [ax2_a], by simp [ax2_a], fun j hj => by simp only [ax2_n _ _ _ _ (show u + 1 ≠ u by omega)]; exact ht j hj, hn, Nat.zero_le _⟩, by rw [ax2_k], fun x hx => by simp only [ax2_n _ _ _ _ hx]⟩
theorem qc_rlaw {u sl n : Nat} (hN : 2000 < N) (hu : LTa Z u) (hl : LLa Z sl) (hT : TXz Z) (hd : u + 1 < sl) (hn : n ≤ 150) (ht : ∀ j, j < n → t j ≠ -1) (h : CT f u t n 0 0 pl) : match q_law t n with
    | .inl z => ∃ f' q, F_X4_readFrom N sl u (axM Z f) = some (0, axM Z f') ∧ CT f' u t n q z.1 z.2 ∧ LFr u sl f f'
    | .inr z => ∃ f' q, F_X4_readFrom N sl u (axM Z f) = some (1, axM Z f') ∧ CT f' u t n q 0 pl ∧ CLn f' sl z ∧ LFr u sl f f' := by
  have h0 := hu.1
  have hl0 := hl.1
  have g1 : CT (ax2 f sl 3 0) u t n 0 0 pl := RFc.ct h (ax2_n _ _ _ _ (by omega)) (ax2_n _ _ _ _ (by omega))
  have L1 : CLn (ax2 f sl 3 0) sl [] := ⟨ax2_k _ _ _ _, fun k x e => (by cases e)⟩
  have r1 : LFr u sl f (ax2 f sl 3 0) := ⟨fun x _ c _ => ax2_n _ _ _ _ c, by rw [ax2_n _ _ _ _ (by omega)]⟩
  have K := qc_SM (pl := pl) hN hu hl hT hd hn 9 0 (by omega) (by omega) 0 [] f _ g1 L1 (Nat.zero_le _) r1
  have hf := q_SM_f (t := t) (n := n) 9 0 0 (by omega) (by omega) (Nat.zero_le _)
  change QLs Z u sl t n pl [] f (G_X4_readSum N sl u 0 (axM Z (ax2 f sl 3 0))) (q_SM t n 9 0 0) at K
  unfold F_X4_readFrom q_law
  rw [m_pi hl0, m_is hl0]
  rcases e1 : q_SM t n 9 0 0 with z | a
  · rw [e1] at K
    obtain ⟨f2, q, x2, g2, r2⟩ := K
    rw [q_bd_l rfl, x2, axB_s, if_pos rfl, m_rz0]
    exact ⟨f2, q, rfl, g2, r2⟩
  rw [e1] at K
  obtain ⟨f2, x2, g2, L2, r2⟩ := K
  obtain ⟨f3, x3, g3, fr3⟩ := qc_sign hN hu g2
  rw [q_bd_r rfl, x2, axB_s, if_neg (show ¬ (1 : Int32) = 0 by decide), m_is h0, x3, axB_s]
  by_cases c : n ≤ q_bl t n a.2
  · rw [if_pos c, if_pos ((q_B_end ht).mpr c), m_rz1]
    exact ⟨f3, _, rfl, g3, fr3.ln hd L2, r2.tr (fr3.lf sl)⟩
  · rw [if_neg c, if_neg (fun q => c ((q_B_end ht).mp q)), m_gi h0, g3.2.1, m_is h0]
    obtain ⟨f4, x4, g4, fr4⟩ := qc_fails (N := N) h0 g3 1 (Int32.ofNat (q_bl t n a.2))
    rw [if_pos rfl, if_pos rfl] at g4
    rw [x4, axB_s, if_pos rfl, m_rz0]
    exact ⟨f4, _, rfl, g4, (r2.tr (fr3.lf sl)).tr (fr4.lf sl)⟩
theorem qc_law (hN : 2000 < N) (h : CA Z b f ψ l r β nl nb t pl rs c0 c1 nw wk ni im) (hV : VA ψ nb t nw wk ni im) (x : Int32) : (∀ n, x = Int32.ofNat n → n ≤ nb → n ≤ 150 → match q_law t n with
    | .inl z => ∃ Z' f', F_X9_law N b x (axM Z f) = some (.inl (z.1 - 10), axM Z' f') ∧ CA Z' b f' ψ l r β nl 0 t z.2 rs c0 c1 nw wk ni im ∧ CFa b f f' ∧ CZa b Z Z'
    | .inr z => ∃ Z' f', F_X9_law N b x (axM Z f) = some (.inl 1, axM Z' f') ∧ CA Z' b f' ψ z r β nl 0 t (-1) rs c0 c1 nw wk ni im ∧ CFa b f f' ∧ CZa b Z Z') ∧ (¬ (0 ≤ x ∧ x ≤ 150 ∧ x ≤ Int32.ofNat nb) → CTz Z b f (F_X9_law N b x (axM Z f)) q_iae 15) := by
  have hRS := h.rst
  obtain ⟨⟨fa, sf, la, sl, bo, sb, hH, hB⟩, hK, hT, k1, k2, k3, -⟩ := h
  obtain ⟨hC, hF, hw, hl, hlw, hR, hok⟩ := hH
  have hCC := hC
  obtain ⟨⟨a0, a1, a2, a3, a4, a5, a6⟩, ⟨d1, d2, d3, d4, d5, d6⟩, q1, q2, q3, ⟨e0, e1⟩, -⟩ := hCC
  obtain ⟨hnb, hVt, hnw, -, hni, him⟩ := id hV
  have hsl : b + 1 + 1 < sl ∧ b + 14 < sl ∧ sl + 3 < b + 23 := by clear q1 q3; omega
  have hla : b + 14 < la ∧ la + 3 < b + 23 := by clear q1 q3; omega
  have hls : la + 3 < sl ∨ sl + 3 < la := by clear q1 q3; omega
  have hfa : b + 2 < fa ∧ fa + 5 < b + 15 := by clear q2 q3; omega
  have hbo : b + 22 < bo ∧ bo + 1 < b + 27 := by clear q1 q2; omega
  clear q1 q2 q3
  unfold F_X9_law F_X9_law_27
  refine ⟨fun n hx hn hn2 => ?_, fun c => ?_⟩
  · subst hx
    have hu := e1.1
    obtain ⟨f1, x1, g1, u1, r1⟩ := q_open (N := N) (f := f) (t := t) hu (show n ≤ 600 by omega) k2
    have K := qc_rlaw hN e1 d4 hT hsl.1 hn2 (hV.t hn) g1
    rw [if_neg (qi_nn (by omega)), if_neg (show ¬ (150 : Int32) < Int32.ofNat n from qi_ngt (i := 150) hn2 (by omega)), m_gr a0 e0, m_gi hu, k1, if_neg (qi_ngt hn (by omega))]
    unfold F_X9_law_28
    rw [qc_needO a0, m_gr a0 e0, m_is hu, x1, axBV_s, m_gr a0 a4, m_gr a0 e0, m_is d4.1]
    have G2 : ∀ f2, LFr (b + 1) sl f1 f2 → (∀ x, x ≠ b + 1 → x ≠ sl → x ≠ sl + 1 → f2 x = f x) ∧ f2 (b + 1) 1 = 0 := fun f2 hr => ⟨fun x p q s => by rw [hr.1 x p q s, r1 x p], by rw [hr.2, u1]⟩
    rcases eo : q_law t n with z | z
    · rw [eo] at K
      obtain ⟨f2, q, x2, g2, hr2⟩ := K
      obtain ⟨o2, u2⟩ := G2 f2 hr2
      refine ⟨Z, f2, ?_, CA.mk ⟨fa, sf, la, sl, bo, sb, ⟨hC, ?_, hw, hl.e (o2 _ (by omega) (by omega) (by omega)) (o2 _ (by omega) (by omega) (by omega)), hlw, ?_, hok⟩, ?_⟩ ?_ hT u2 g2.2.2.2.1 (hRS.e hnw hni (fun i hi => (him i hi).1) fun x hx => o2 x (by omega) (by omega) (by omega)), fun x hx => o2 x (by omega) (by omega) (by omega), CZa.rf _ _⟩
      · rw [x2, axB_s, if_pos rfl, m_gr a0 e0, m_gi hu, g2.2.2.1]
      · rw [← hF]
        exact rdF_e fun x p q => o2 x (by omega) (by omega) (by omega)
      · rw [← hR]
        exact rdSt_e (o2 _ (by omega) (by omega) (by omega)) (o2 _ (by omega) (by omega) (by omega)) (o2 _ (by omega) (by omega) (by omega))
      · unfold clB at hB ⊢
        rw [o2 bo (by omega) (by omega) (by omega), o2 (bo + 1) (by omega) (by omega) (by omega)]
        exact hB
      · exact fitC.e hK fun x p q => o2 x (by omega) (by omega) (by omega)
    · rw [eo] at K
      obtain ⟨f2, q, x2, g2, L2, hr2⟩ := K
      obtain ⟨o2, u2⟩ := G2 f2 hr2
      obtain ⟨z1, z2⟩ := (q_law_f (t := t) (n := n)).2 z eo
      have hC' := hC.swl
      have hfi := hC'.fi
      have z0 : axL (q_sw Z b 3 la sl) b = some (0, 9) := a0
      have hne : z ≠ [] := fun e => by
        rw [e] at z2
        exact absurd (show (0 : Nat) = 1 from z2) (by decide)
      have hcd : q_code z = z.map q_enc := if_neg hne
      have o3 : ∀ x, x ≠ b + 1 → x ≠ sl → x ≠ sl + 1 → x ≠ b + 88 → ax2 f2 (b + 88) 0 0 x = f x := fun x p q s v => by rw [ax2_n _ _ _ _ v, o2 x p q s]
      refine ⟨q_sw Z b 3 la sl, ax2 f2 (b + 88) 0 0, ?_, CA.mk ⟨fa, sf, sl, la, bo, sb, ⟨hC', ?_, hw, ⟨?_, ?_, fun k x hx => ?_⟩, Or.inr z2, ?_, hok⟩, ?_⟩ (Or.inl (ax2_k _ _ _ _)) (hT.z rfl rfl) ?_ ?_ (hRS.e hnw hni (fun i hi => (him i hi).1) fun x hx => o3 x (by omega) (by omega) (by omega) (by omega)), fun x hx => o3 x (by omega) (by omega) (by omega) (by omega), CZa.sw _ _ _ _ _⟩
      · rw [x2, axB_s, if_neg (show ¬ (1 : Int32) = 0 by decide), m_gr a0 a4, m_gr a0 a3, m_pr a0, m_pr (Z := axSP Z b 4 (some la)) a0, show axSP (axSP Z b 4 (some la)) b 3 (some sl) = q_sw Z b 3 la sl from rfl, m_gr z0 hfi.1.1, m_pi hfi.1.2]
      · rw [← hF]
        exact rdF_e fun x p q => o3 x (by omega) (by omega) (by omega) (by omega)
      · rw [hcd, List.length_map, ax2_n _ _ _ _ (by omega)]
        exact L2.1
      · rw [hcd, List.length_map]
        omega
      · rw [hcd] at hx
        rw [ax2_n _ _ _ _ (by omega)]
        exact L2.2 k x hx
      · rw [← hR]
        exact rdSt_e (o3 _ (by omega) (by omega) (by omega) (by omega)) (o3 _ (by omega) (by omega) (by omega) (by omega)) (o3 _ (by omega) (by omega) (by omega) (by omega))
      · unfold clB at hB ⊢
        rw [o3 bo (by omega) (by omega) (by omega) (by omega), o3 (bo + 1) (by omega) (by omega) (by omega) (by omega)]
        exact hB
      · rw [ax2_n _ _ _ _ (by omega), u2]
        rfl
      · rw [ax2_n _ _ _ _ (by omega)]
        exact g2.2.2.2.1
  · unfold F_X9_law_28
    have key : ∀ K : Unit → AxS → Option (AxT Int32), CTz Z b f (ax_is (axM Z f) b 9 (axBT (F_X9_needArgument N b 0 (axM Z f)) K)) q_iae 15 := fun K => by
      rw [qc_needT a0]
      exact ⟨_, rfl, fun _ _ => rfl⟩
    by_cases c1 : x < 0
    · rw [if_pos c1]
      exact key _
    rw [if_neg c1]
    by_cases c2 : 150 < x
    · rw [if_pos c2]
      exact key _
    rw [if_neg c2, m_gr a0 e0, m_gi e1.1, k1, if_pos (Int32.not_le.mp fun q => c ⟨Int32.not_lt.mp c1, Int32.not_lt.mp c2, q⟩)]
    exact key _
-- the model's
theorem qm_lay2_10 (hm : LMo Z m) {i M : Nat} (hi : i < 160) (hM : i < M) (K2 : Nat → Nat → Int32 → Int32 → AxS → Option AxS) : ∀ (n j fu : Nat) (f : Nat → Nat → Int32), j + n = 2 → n < fu → ∃ f', F_X10_lays_10 N K2 fu (m + 178) (m + 17) (Int32.ofNat M) (Int32.ofNat i) (Int32.ofNat j) (axM Z f) = K2 (m + 178) (m + 17) (Int32.ofNat M) (Int32.ofNat (i + 1)) (axM Z f') ∧ (∀ k, k < 2 → f' (m + 18 + i) k = if j ≤ k then f (m + 179 + i) k else f (m + 18 + i) k) ∧ ∀ x, x ≠ m + 18 + i → f' x = f x := by
  have s7 : axL Z (m + 178) = some (3, 160) := hm.2.2.1 178 _ rfl
  have s12 : axL Z (m + 17) = some (3, 160) := hm.2.2.1 17 _ rfl
  obtain ⟨pr, sr⟩ : axP Z (m + 178) i = some (m + 179 + i) ∧ axL Z (m + 179 + i) = some (1, 2) := hm.2.2.2 178 160 2 rfl i hi
  obtain ⟨pq, sq⟩ : axP Z (m + 17) i = some (m + 18 + i) ∧ axL Z (m + 18 + i) = some (1, 2) := hm.2.2.2 17 160 2 rfl i hi
  intro n
  induction n with
  | zero =>
    intro j fu f hj hfu
    obtain ⟨fu, rfl⟩ : ∃ q, fu = q + 1 := ⟨fu - 1, by omega⟩
    show ∃ f', F_X10_lays_10b N K2 (F_X10_lays_10 N K2 fu) (m + 178) (m + 17) (Int32.ofNat M) (Int32.ofNat i) (Int32.ofNat j) (axM Z f) = _ ∧ _
    unfold F_X10_lays_10b
    rw [m_ldrn (t := 0) s12 (by omega) hi (by omega) pq, m_len (t := 0) sq (by omega), if_pos (qi_ge (by omega) (by omega)), qi_s]
    exact ⟨f, rfl, fun k hk => by rw [if_neg (by omega)], fun _ _ => rfl⟩
  | succ n ih =>
    intro j fu f hj hfu
    obtain ⟨fu, rfl⟩ : ∃ q, fu = q + 1 := ⟨fu - 1, by omega⟩
    show ∃ f', F_X10_lays_10b N K2 (F_X10_lays_10 N K2 fu) (m + 178) (m + 17) (Int32.ofNat M) (Int32.ofNat i) (Int32.ofNat j) (axM Z f) = _ ∧ _
    unfold F_X10_lays_10b
    rw [m_ldrn (t := 0) s12 (by omega) hi (by omega) pq, m_len (t := 0) sq (by omega), if_neg (qi_nge (by omega) (by omega)), m_ldrn (t := 0) s12 (by omega) hi (by omega) pq, m_ldrn (t := 0) s7 (by omega) hi (by omega) pr, m_ldn sr (show j < 2 by omega) (by omega), m_stn sq (show j < 2 by omega) (by omega), qi_s]
    obtain ⟨f2, e2, g2, r2⟩ := ih (j + 1) fu (ax2 f (m + 18 + i) j (f (m + 179 + i) j)) (by omega) (by omega)
    refine ⟨f2, e2, fun k hk => ?_, fun x hx => by rw [r2 x hx, ax2_n _ _ _ _ hx]⟩
    rw [g2 k hk, ax2_n _ _ _ _ (by omega)]
    by_cases c : j + 1 ≤ k
    · rw [if_pos c, if_pos (by omega)]
    · rw [if_neg c]
      by_cases c2 : k = j
      · rw [c2, ax2_k, if_pos (Nat.le_refl _)]
      · rw [ax2_j _ _ _ _ _ c2, if_neg (by omega)]
theorem qm_lay2 (hN : 2000 < N) (hm : LMo Z m) {M : Nat} (hM : M ≤ 150) : ∃ f', F_X10_lays N (m + 178) (m + 17) (Int32.ofNat M) (axM Z f) = some (axM Z f') ∧ (∀ i, i < M → ∀ k, k < 2 → f' (m + 18 + i) k = f (m + 179 + i) k) ∧ ∀ x, ¬ (m + 18 ≤ x ∧ x ≤ m + 177) → f' x = f x := by
  have loop : ∀ (n i fu : Nat) (g : Nat → Nat → Int32), i + n = M → n < fu → (∀ x, ¬ (m + 18 ≤ x ∧ x ≤ m + 177) → g x = f x) → (∀ j, j < i → ∀ k, k < 2 → g (m + 18 + j) k = f (m + 179 + j) k) → ∃ f', F_X10_lays_2 N fu (m + 178) (m + 17) (Int32.ofNat M) (Int32.ofNat i) (axM Z g) = some (axM Z f') ∧ (∀ i, i < M → ∀ k, k < 2 → f' (m + 18 + i) k = f (m + 179 + i) k) ∧ ∀ x, ¬ (m + 18 ≤ x ∧ x ≤ m + 177) → f' x = f x := by
    intro n
    induction n with
    | zero =>
      intro i fu g hi hfu hg hd
      obtain ⟨fu, rfl⟩ : ∃ q, fu = q + 1 := ⟨fu - 1, by omega⟩
      show ∃ f', F_X10_lays_2b N (F_X10_lays_2 N fu) (m + 178) (m + 17) (Int32.ofNat M) (Int32.ofNat i) (axM Z g) = _ ∧ _
      unfold F_X10_lays_2b
      rw [if_pos (qi_ge (by omega) (by omega))]
      exact ⟨g, rfl, fun j hj => hd j (by omega), hg⟩
    | succ n ih =>
      intro i fu g hi hfu hg hd
      obtain ⟨fu, rfl⟩ : ∃ q, fu = q + 1 := ⟨fu - 1, by omega⟩
      show ∃ f', F_X10_lays_2b N (F_X10_lays_2 N fu) (m + 178) (m + 17) (Int32.ofNat M) (Int32.ofNat i) (axM Z g) = _ ∧ _
      unfold F_X10_lays_2b
      rw [if_neg (qi_nge (by omega) (by omega))]
      obtain ⟨g2, e2, h2, r2⟩ := qm_lay2_10 (N := N) hm (show i < 160 by omega) (show i < M by omega) (F_X10_lays_2 N fu) 2 0 N g (by omega) (by omega)
      rw [show F_X10_lays_10 N (F_X10_lays_2 N fu) N (m + 178) (m + 17) (Int32.ofNat M) (Int32.ofNat i) 0 (axM Z g) = _ from e2]
      refine ih (i + 1) fu g2 (by omega) (by omega) (fun x hx => by rw [r2 x (by omega), hg x hx]) fun j hj k hk => ?_
      by_cases c : j = i
      · rw [c, h2 k hk, if_pos (Nat.zero_le _), hg _ (by omega)]
      · rw [r2 _ (by omega)]
        exact hd j (by omega) k hk
  exact loop M 0 N f (by omega) (by omega) (fun _ _ => rfl) (fun j hj => absurd hj (by omega))
theorem qm_law (hN : 2000 < N) (h : MA Z m f ψ l r β nl nb t pl rs c0 c1 nw wk ni im) (hV : VA ψ nb t nw wk ni im) (x : Int32) : (∀ n, x = Int32.ofNat n → n ≤ nb → n ≤ 150 → match q_law t n with
    | .inl z => ∃ f', F_X10_law N m x (axM Z f) = some (z.1 - 10, axM Z f') ∧ MA Z m f' ψ l r β nl 0 t z.2 rs c0 c1 nw wk ni im ∧ MK Z m f f'
    | .inr z => ∃ f', F_X10_law N m x (axM Z f) = some (1, axM Z f') ∧ MA Z m f' ψ z r β nl 0 t (-1) rs c0 c1 nw wk ni im ∧ MK Z m f f') ∧ (¬ (0 ≤ x ∧ x ≤ 150 ∧ x ≤ Int32.ofNat nb) → MTz Z m f (F_X10_law N m x (axM Z f)) 1 1) := by
  have hA := h
  obtain ⟨hH, hB, k1, k2, k3, k4, k5, k6, k7, k8, k9, k10⟩ := h
  have hm := hH.1
  have h0 := hm.1
  have hnb := hV.1
  unfold F_X10_law F_X10_law_25
  refine ⟨fun n hx hn hn2 => ?_, fun c => ?_⟩
  · subst hx
    have hin : 0 ≤ Int32.ofNat n ∧ Int32.ofNat n ≤ Int32.ofNat nb := ⟨Int32.not_lt.mp (qi_nn (by omega)), qi_ge hn (by omega)⟩
    rw [m_pi h0, m_gi h0, ax2_j _ _ _ _ _ (by omega), k1, m_in, axB_s, if_pos hin, if_neg (show ¬ (1 : Int32) = 0 by decide), if_pos (show Int32.ofNat n ≤ 150 from qi_ge (j := 150) hn2 (by omega))]
    unfold F_X10_law_30
    rw [m_is h0, qm_badF N h0]
    obtain ⟨f1, e1, g1, a1, a7, a8, r1, r1m⟩ := qm_starts (N := N) (f := ax2 f m 0 0) (t := t) hN hm (show n ≤ 600 by omega) (fun j hj => by rw [ax2_n _ _ _ _ (by omega)]; exact k2 j hj)
    have hbl : q_bl t n (q_bl t n 0) = q_bl t n 0 := q_skp_i q_isB t (Nat.zero_le n)
    have g2 : MT (ax2 f1 m 18 0) m t n (q_bl t n 0) 0 (-1) := g1.j (by omega)
    have L2 : MLn (ax2 f1 m 18 0) m [] := ⟨ax2_k _ _ _ _, fun k q e => (by cases e)⟩
    have K := qm_SM (pl := -1) hN hm hn2 9 0 (by omega) (by omega) (q_bl t n 0) [] (ax2 f1 m 18 0) _ g2 L2 (Nat.zero_le _) (by rw [ax2_j _ _ _ _ _ (by omega), a8]; rfl) (NFr.rf _ _)
    have eS : q_SM t n 9 0 (q_bl t n 0) = q_SM t n 9 0 0 := q_SM_s hbl 9
    change QMn Z m t n (-1) 0 [] (ax2 f1 m 18 0) (G_X10_sum N m (axM Z (ax2 f1 m 18 0))) (q_SM t n 9 0 (q_bl t n 0)) at K
    rw [eS] at K
    rw [m_is h0, e1, axBV_s, m_pi h0, m_is h0]
    have G3 : ∀ f3, NFr m (ax2 f1 m 18 0) f3 → (∀ x, x ≠ m → ¬ (m + 179 ≤ x ∧ x ≤ m + 338) → f3 x = f x) ∧ f3 m 0 = 0 ∧ f3 m 1 = 0 ∧ (∀ k, 17 ≤ k → k ≠ 18 → f3 m k = f m k) := fun f3 hr => ⟨fun x p q => by rw [hr.1 x p q, ax2_n _ _ _ _ p, r1 x p, ax2_n _ _ _ _ p], by rw [hr.2 0 (by omega) (by omega) (by omega) (by omega) (by omega), ax2_j _ _ _ _ _ (by omega), r1m 0 (by omega), ax2_k], by rw [hr.2 1 (by omega) (by omega) (by omega) (by omega) (by omega), ax2_j _ _ _ _ _ (by omega), a1], fun k hk h18 => by rw [hr.2 k (by omega) (by omega) (by omega) (by omega) (by omega), ax2_j _ _ _ _ _ h18, r1m k (by omega), ax2_j _ _ _ _ _ (by omega)]⟩
    have bad : ∀ (g : Nat → Nat → Int32) (q : Nat) (z : Int32 × Int32), MT g m t n q z.1 z.2 → z.1 ≠ 0 → NFr m (ax2 f1 m 18 0) g → ∃ f', F_X10_law_85 N m (axM Z g) = some (z.1 - 10, axM Z f') ∧ MA Z m f' ψ l r β nl 0 t z.2 rs c0 c1 nw wk ni im ∧ MK Z m f f' := by
      intro g q z hg hz hr
      obtain ⟨o3, o30, o31, o3k⟩ := G3 g hr
      refine ⟨ax2 g m 3 (g m 6), ?_, ?_, ?_, fun x hx => ?_⟩
      · unfold F_X10_law_85
        rw [m_gi h0, hg.2.2.1, if_neg hz, m_is h0, qm_ends h0, axB_s, hg.2.2.1]
      · refine hA.x hV.2.2.1 hV.2.2.2.2.1 ?_ ?_ (fun k hk => ?_) (fun x hx => ?_)
        · rw [ax2_j _ _ _ _ _ (by omega), o31]
          rfl
        · rw [ax2_k, hg.2.2.2.1]
        · rw [ax2_j _ _ _ _ _ (by omega), o3k k (by omega) (by omega)]
        · unfold scX at hx
          rw [ax2_n _ _ _ _ (by omega), o3 x (by omega) (by omega)]
      · rw [ax2_j _ _ _ _ _ (by omega), o30]
      · rw [ax2_n _ _ _ _ (by omega), o3 x (by omega) (by omega)]
    have hf := q_SM_f (t := t) (n := n) 9 0 0 (by omega) (by omega) (Nat.zero_le _)
    have LF := q_law_f (t := t) (n := n)
    unfold q_law at LF ⊢
    rcases e3 : q_SM t n 9 0 0 with z | a
    · rw [e3] at K LF
      obtain ⟨f3, q, y3, x3, r3⟩ := K
      obtain ⟨f4, y4, x4, fr4⟩ := qm_blanks hN hm x3
      have hz := hf.1 z e3
      rw [q_bd_l rfl, y3, axBV_s, m_is h0, y4, axBV_s, m_gi h0, x4.2.2.1, if_neg hz]
      exact bad _ _ _ x4 hz (r3.tr fr4.nf)
    rw [e3] at K LF
    obtain ⟨f3, y3, x3, L3, h83, r3⟩ := K
    obtain ⟨b1, b2, b3, -⟩ := hf.2 a e3
    obtain ⟨f4, y4, x4, fr4⟩ := qm_blanks hN hm x3
    have hb2 := (q_skp_b q_isB t b3).2.1
    change q_bl t n a.2 ≤ n at hb2
    have L4 := fr4.ln L3
    have r4 := r3.tr fr4.nf
    rw [q_bd_r rfl] at LF
    rw [q_bd_r rfl, y3, axBV_s, m_is h0, y4, axBV_s, m_gi h0, x4.2.2.1, if_pos rfl, m_gi h0, x4.2.1, m_gi h0, x4.1]
    by_cases c9 : n ≤ q_bl t n a.2
    · rw [if_pos c9] at LF
      obtain ⟨z1, z2⟩ := LF.2 a.1 rfl
      obtain ⟨o3, o30, o31, o3k⟩ := G3 f4 r4
      have hlen : ([] ++ a.1 : QL).length = a.1.length := rfl
      obtain ⟨f6, y6, x6, r6⟩ := qm_lay2 (N := N) (f := ax2 (ax2 f4 m 3 (-1)) m 17 (Int32.ofNat a.1.length)) hN hm (M := a.1.length) (by omega)
      have o6 : ∀ x, x ≠ m → ¬ (m + 18 ≤ x ∧ x ≤ m + 177) → ¬ (m + 179 ≤ x ∧ x ≤ m + 338) → f6 x = f x := fun x p q s => by rw [r6 x q, ax2_n _ _ _ _ p, ax2_n _ _ _ _ p, o3 x p s]
      have o6m : ∀ k, k ≠ 3 → k ≠ 17 → f6 m k = f4 m k := fun k p q => by rw [r6 m (by omega), ax2_j _ _ _ _ _ q, ax2_j _ _ _ _ _ p]
      obtain ⟨hm', hG, hw, hlw, hll, hR, hok, h12⟩ := hH
      rw [if_pos c9, if_pos (qi_ge c9 (by omega))]
      refine ⟨f6, ?_, ⟨⟨hm, ?_, hw, ⟨?_, by omega, fun k q hq => ?_⟩, Or.inr z2, ?_, hok, h12⟩, hB.x (by rw [o6m 31 (by omega) (by omega), o3k 31 (by omega) (by omega)]) (fun x p q => o6 x (by omega) (by omega) (by omega)), ?_, fun j hj => by rw [o6 (m + 1) (by omega) (by omega) (by omega), k2 j hj], ?_, ?_, ?_, ?_, ?_, fun w hw => ?_, ?_, fun i hi => ?_⟩, ?_, fun x hx => o6 x (by omega) (by omega) (by omega)⟩
      · unfold F_X10_law_85
        rw [m_gi h0, x4.2.2.1, if_pos rfl, m_pi h0, m_gi h0, ax2_j _ _ _ _ _ (show (18 : Nat) ≠ 3 by omega), L4.1, hlen, m_pi h0, m_gr h0 (hm.2.1 20 178 rfl), m_gr h0 (hm.2.1 19 17 rfl), m_gi h0, ax2_k, y6, axBV_s]
      · rw [← hG]
        exact rdG_x fun x hx => o6 x (by omega) (by omega) (by omega)
      · rw [r6 m (by omega), ax2_k]
      · have hk := (List.getElem?_eq_some_iff.mp hq).1
        obtain ⟨v1, v2⟩ := L4.2 k q hq
        rw [x6 k hk 0 (by omega), x6 k hk 1 (by omega), ax2_n _ _ _ _ (by omega), ax2_n _ _ _ _ (by omega)]
        exact ⟨v1, v2⟩
      · rw [← hR]
        exact rdM_e fun k _ => by rw [o6 _ (by omega) (by omega) (by omega)]
      · rw [o6m 1 (by omega) (by omega), o31]
        rfl
      · rw [r6 m (by omega), ax2_j _ _ _ _ _ (by omega), ax2_k]
      · rw [o6m 33 (by omega) (by omega), o3k 33 (by omega) (by omega), k4]
      · rw [o6 (m + 2) (by omega) (by omega) (by omega), k5]
      · rw [o6 (m + 2) (by omega) (by omega) (by omega), k6]
      · rw [o6m 32 (by omega) (by omega), o3k 32 (by omega) (by omega), k7]
      · have := hV.2.2.1
        rw [← k8 w hw]
        exact rdM_e fun k _ => by rw [o6 _ (by omega) (by omega) (by omega)]
      · rw [o6m 34 (by omega) (by omega), o3k 34 (by omega) (by omega), k9]
      · have := hV.2.2.2.2.1
        obtain ⟨v1, v2, v3⟩ := k10 i hi
        have ei := o6 (m + 460 + i) (by omega) (by omega) (by omega)
        unfold rdI at v2 v3 ⊢
        rw [ei]
        exact ⟨v1, v2, v3⟩
      · rw [o6m 0 (by omega) (by omega), o30]
    · rw [if_neg c9, if_neg (qi_nge (by omega) (by omega)), m_gi h0, x4.2.1, m_is h0]
      obtain ⟨f5, y5, x5, fr5⟩ := qm_wrong (N := N) h0 x4 1 (Int32.ofNat (q_bl t n a.2))
      rw [if_pos rfl, if_pos rfl] at x5
      rw [y5, axBV_s]
      exact bad _ _ (1, Int32.ofNat (q_bl t n a.2)) x5 (show ¬ (1 : Int32) = 0 by decide) (r4.tr fr5.nf)
  · unfold F_X10_law_30
    rw [m_pi h0, m_gi h0, ax2_j _ _ _ _ _ (by omega), k1, m_in, axB_s]
    by_cases c1 : 0 ≤ x ∧ x ≤ Int32.ofNat nb
    · rw [if_pos c1, if_neg (show ¬ (1 : Int32) = 0 by decide), if_neg (fun q => c ⟨c1.1, q, c1.2⟩), m_is h0]
      exact qm_badT1 N hm _ _
    · rw [if_neg c1, if_pos rfl, m_is h0]
      exact qm_badT1 N hm _ _
end
