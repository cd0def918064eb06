/-! the law: the class reads it -/
def CLn (f : Nat → Nat → Int32) (a : Nat) (acc : QL) : Prop := f a 3 = Int32.ofNat acc.length ∧ ∀ k x, (acc.map q_enc)[k]? = some x → f (a + 1) k = x
def LFr (u sl : Nat) (f f' : Nat → Nat → Int32) : Prop := (∀ x, x ≠ u → x ≠ sl → x ≠ sl + 1 → f' x = f x) ∧ f' u 1 = f u 1
theorem LFr.rf (u sl : Nat) (f : Nat → Nat → Int32) : LFr u sl f f := ⟨fun _ _ _ _ => rfl, rfl⟩
theorem LFr.tr {u sl : Nat} {f g h : Nat → Nat → Int32} (h1 : LFr u sl f g) (h2 : LFr u sl g h) : LFr u sl f h := ⟨fun x a b c => by rw [h2.1 x a b c, h1.1 x a b c], by rw [h2.2, h1.2]⟩
theorem CFr.lf {u : Nat} {f g : Nat → Nat → Int32} (h : CFr f g u) (sl : Nat) : LFr u sl f g := ⟨fun x a _ _ => h.1 x a, h.2⟩
theorem CFr.ln {u sl : Nat} {f g : Nat → Nat → Int32} (h : CFr f g u) (hd : u + 1 < sl) {acc : QL} (hL : CLn f sl acc) : CLn g sl acc := by
  unfold CLn
  rw [h.1 sl (by omega), h.1 (sl + 1) (by omega)]
  exact hL
section
variable {Z : AxS} {u sl N n p op s D : Nat} {f f0 : Nat → Nat → Int32} {t : QR} {pl : Int32} {acc : QL} {kr : Nat → Nat → Int32 → AxS → Option (Int32 × AxS)} {krp : Nat → QO2}
def QLs (Z : AxS) (u sl : Nat) (t : QR) (n : Nat) (pl : Int32) (acc : QL) (f : Nat → Nat → Int32) (r : Option (Int32 × AxS)) (o : QO2) : Prop := match o with
  | .inl z => ∃ f' q, r = some (0, axM Z f') ∧ CT f' u t n q z.1 z.2 ∧ LFr u sl f f'
  | .inr z => ∃ f', r = some (1, axM Z f') ∧ CT f' u t n z.2 0 pl ∧ CLn f' sl (acc ++ z.1) ∧ LFr u sl f f'
theorem qc_em (hl : LLa Z sl) (hd : u + 1 < sl) (h : CLn f sl acc) (ha : acc.length < 150) {q : Int32 × Int32} {v : Int32} (hv : v = q_enc q) : ∃ f', F_X4_emit N sl v (axM Z f) = some (axM Z f') ∧ CLn f' sl (acc ++ [q]) ∧ (∀ {p k w}, CT f u t n p k w → CT f' u t n p k w) ∧ f' u = f u ∧ LFr u sl f f' := by
  refine ⟨_, qc_emit hl h.1 ha v, ⟨?_, fun k x hx => ?_⟩, fun {p k w} hc => RFc.ct hc (by rw [ax2_n _ _ _ _ (by omega), ax2_n _ _ _ _ (by omega)]) (by rw [ax2_n _ _ _ _ (by omega), ax2_n _ _ _ _ (by omega)]), by rw [ax2_n _ _ _ _ (by omega), ax2_n _ _ _ _ (by omega)], fun x a b c => by rw [ax2_n _ _ _ _ b, ax2_n _ _ _ _ c], by rw [ax2_n _ _ _ _ (by omega), ax2_n _ _ _ _ (by omega)]⟩
  · rw [ax2_k, List.length_append]
    rfl
  · rw [ax2_n _ _ _ _ (by omega), ax2_a]
    rw [List.map_append] at hx
    by_cases c : k = acc.length
    · rw [if_pos c]
      rw [c, List.getElem?_append_right (by rw [List.length_map]; omega), List.length_map, Nat.sub_self] at hx
      rw [hv]
      exact Option.some.inj hx
    · rw [if_neg c]
      by_cases c2 : k < acc.length
      · rw [List.getElem?_append_left (by rw [List.length_map]; exact c2)] at hx
        exact h.2 k x hx
      · rw [List.getElem?_append_right (by rw [List.length_map]; omega), List.length_map] at hx
        rw [List.getElem?_eq_none (show ([q].map q_enc).length ≤ k - acc.length by show 1 ≤ _; omega)] at hx
        cases hx
theorem qc_emg (hl : LLa Z sl) (hd : u + 1 < sl) (f : Nat → Nat → Int32) (v : Int32) : ∃ f', F_X4_emit N sl v (axM Z f) = some (axM Z f') ∧ (∀ {p k w}, CT f u t n p k w → CT f' u t n p k w) ∧ LFr u sl f f' := by
  obtain ⟨h0, ⟨p0, s0⟩, -⟩ := hl
  refine ⟨ax2 (q_put f (sl + 1) 150 (f sl 3) v) sl 3 (q_put f (sl + 1) 150 (f sl 3) v sl 3 + 1), ?_, fun {p k w} hc => RFc.ct hc (by rw [ax2_n _ _ _ _ (by omega), q_put_n (by omega)]) (by rw [ax2_n _ _ _ _ (by omega), q_put_n (by omega)]), fun x a b c => by rw [ax2_n _ _ _ _ b, q_put_n c], by rw [ax2_n _ _ _ _ (by omega), q_put_n (by omega)]⟩
  unfold F_X4_emit
  rw [m_gr h0 p0, m_gi h0, m_put N s0 (by omega), axBV_s, m_gi h0, m_pi h0]
/-- a call on one that reads -/
def QKr (Z : AxS) (u sl : Nat) (t : QR) (n : Nat) (pl : Int32) (F : AxS → Option (Int32 × AxS)) (P : Nat → QO2) : Prop := ∀ (p : Nat) (acc : QL) (f0 f : Nat → Nat → Int32), CT f u t n p 0 pl → CLn f sl acc → acc.length ≤ p → LFr u sl f0 f → QLs Z u sl t n pl acc f0 (F (axM Z f)) (P p)
theorem qc_known (hN : 2000 < N) (hu : LTa Z u) (hT : TXz Z) (h : CT f u t n p 0 pl) (h6 : f u 6 = Int32.ofNat s) (hs : s ≤ p) : F_X4_inputOf N u (axM Z f) = some (q_kv t s p, axM Z f) := by
  have h0 := hu.1
  have hw := fun i (hi : i < 9) => qc_isWord hN hu hT (q_V_txt i hi) h h6 hs
  unfold F_X4_inputOf q_kv
  rw [m_is h0, axM_Tx, hw 2 (by omega), axB_s]
  by_cases c2 : q_isw t s p (q_V 2) = true
  · simp only [if_pos c2]
    rw [if_neg (show ¬ (1 : Int32) = 0 by decide)]
  simp only [if_neg c2]
  rw [if_pos trivial]
  rw [m_is h0, axM_Tx, hw 3 (by omega), axB_s]
  by_cases c3 : q_isw t s p (q_V 3) = true
  · simp only [if_pos c3]
    rw [if_neg (show ¬ (1 : Int32) = 0 by decide)]
  simp only [if_neg c3]
  rw [if_pos trivial]
  rw [m_is h0, axM_Tx, hw 4 (by omega), axB_s]
  by_cases c4 : q_isw t s p (q_V 4) = true
  · simp only [if_pos c4]
    rw [if_neg (show ¬ (1 : Int32) = 0 by decide)]
  simp only [if_neg c4]
  rw [if_pos trivial]
  rw [m_is h0, axM_Tx, hw 5 (by omega), axB_s]
  by_cases c5 : q_isw t s p (q_V 5) = true
  · simp only [if_pos c5]
    rw [if_neg (show ¬ (1 : Int32) = 0 by decide)]
  simp only [if_neg c5]
  rw [if_pos trivial]
  rw [m_is h0, axM_Tx, hw 6 (by omega), axB_s]
  by_cases c6 : q_isw t s p (q_V 6) = true
  · simp only [if_pos c6]
    rw [if_neg (show ¬ (1 : Int32) = 0 by decide)]
  simp only [if_neg c6]
  rw [if_pos trivial]
  rw [m_is h0, axM_Tx, hw 7 (by omega), axB_s]
  by_cases c7 : q_isw t s p (q_V 7) = true
  · simp only [if_pos c7]
    rw [if_neg (show ¬ (1 : Int32) = 0 by decide)]
  simp only [if_neg c7]
  rw [if_pos trivial]
  rw [m_is h0, axM_Tx, hw 8 (by omega), axB_s]
  by_cases c8 : q_isw t s p (q_V 8) = true
  · simp only [if_pos c8]
    rw [if_neg (show ¬ (1 : Int32) = 0 by decide)]
  simp only [if_neg c8]
  rw [if_pos trivial]
theorem qc_tkn (hN : 2000 < N) (hu : LTa Z u) (h : CT f u t n p 0 pl) {c : Int32} (hc : c ≠ -1) : (∀ z, q_tk t n c p = .inl z → ∃ f' q, F_X7_takes N u c (axM Z f) = some (0, axM Z f') ∧ CT f' u t n q z.1 z.2 ∧ CFr f f' u) ∧ ∀ z, q_tk t n c p = .inr z → ∃ f', F_X7_takes N u c (axM Z f) = some (1, axM Z f') ∧ CT f' u t n z 0 pl ∧ CFr f f' u := by
  have r := qc_takes hN hu h hc
  unfold q_tk
  by_cases e : q_B t n (q_bl t n p) = c
  · rw [if_pos e]
    exact ⟨fun z q => (by cases q), fun z q => (by cases q; exact r.1 ⟨rfl, e⟩)⟩
  · rw [if_neg e]
    exact ⟨fun z q => (by cases q; exact r.2 fun y => e y.2), fun z q => (by cases q)⟩
theorem qc_two {v4 h9 : Int32} (hN : 2000 < N) (hu : LTa Z u) (hl : LLa Z sl) (hd : u + 1 < sl) (hn : n ≤ 150) (ho : op ≤ 6) (hk : op < 6 → QKr Z u sl t n pl (kr sl u (Int32.ofNat (op + 1))) krp) (hkf : op < 6 → ∀ p, p ≤ n → q_ft D p n (krp p)) (h4 : (v4 = 1 ∧ h9 = 7) ∨ (v4 = 0 ∧ h9 = 8)) (h : CT f u t n p 0 pl) (h6 : f u 6 = Int32.ofNat s) (hL : CLn f sl acc) (ha : acc.length ≤ p) (hr : LFr u sl f0 f) : QLs Z u sl t n pl acc f0 (F_X4_readUnit_121 N kr sl u (Int32.ofNat op) v4 (axM Z f)) (if 6 ≤ op then .inl (3, Int32.ofNat s) else q_two krp t n p h9) := by
  have h0 := hu.1
  have hl0 := hl.1
  have hpn := h.2.2.2.2.2.2
  have bad : ∀ (g : Nat → Nat → Int32) (q : Nat) (z : Int32 × Int32), CT g u t n q z.1 z.2 → LFr u sl f0 g → QLs Z u sl t n pl acc f0 (F_X4_readUnit_190 N kr sl v4 (axM Z g)) (.inl z) := fun g q z hg hr => by
    unfold F_X4_readUnit_190 F_X4_readUnit_191 F_X4_readUnit_208
    rcases h4 with ⟨rfl, -⟩ | ⟨rfl, -⟩
    · obtain ⟨g1, e1, c1, r1⟩ := qc_emg (N := N) (t := t) (n := n) hl hd g 2005
      rw [if_neg (show ¬ (1 : Int32) = 0 by decide), m_is hl0, e1, axBV_s, m_rz0]
      exact ⟨g1, q, rfl, c1 hg, hr.tr r1⟩
    · obtain ⟨g1, e1, c1, r1⟩ := qc_emg (N := N) (t := t) (n := n) hl hd g 2006
      rw [if_pos rfl, m_is hl0, e1, axBV_s, m_rz0]
      exact ⟨g1, q, rfl, c1 hg, hr.tr r1⟩
  unfold F_X4_readUnit_121
  by_cases c6 : 6 ≤ op
  · rw [if_pos c6, if_neg (show ¬ Int32.ofNat op < 6 from qi_ngt (j := 6) (by omega) (by omega)), m_gi h0, h6, m_is h0]
    obtain ⟨f1, e1, g1, fr1⟩ := qc_fails (N := N) h0 h 3 (Int32.ofNat s)
    rw [if_pos rfl, if_pos rfl] at g1
    rw [e1, axB_s, m_rz0]
    exact ⟨f1, p, rfl, g1, hr.tr (fr1.lf sl)⟩
  rw [if_neg c6, if_pos (show Int32.ofNat op < 6 from qi_gt (j := 6) (by omega) (by omega)), m_is h0]
  unfold q_two
  have T1 := qc_tkn hN hu h (c := 91) (by decide)
  rcases e1 : q_tk t n 91 p with z | p1
  · obtain ⟨f1, q, x1, g1, fr1⟩ := T1.1 z e1
    rw [q_bd_l rfl, x1, axB_s, if_pos rfl]
    exact bad _ _ _ g1 (hr.tr (fr1.lf sl))
  obtain ⟨f1, x1, g1, fr1⟩ := T1.2 p1 e1
  obtain ⟨u1, u2⟩ := (q_tk_f (by decide) hpn).2 p1 e1
  rw [q_bd_r rfl, x1, axB_s, if_neg (show ¬ (1 : Int32) = 0 by decide), m_is hl0, qi_s]
  have K1 := hk (by omega) p1 acc f0 f1 g1 (fr1.ln hd hL) (by omega) (hr.tr (fr1.lf sl))
  rcases e2 : krp p1 with z | a
  · rw [e2] at K1
    obtain ⟨f2, q, x2, g2, r2⟩ := K1
    rw [q_bd_l rfl, x2, axB_s, if_pos rfl]
    exact bad _ _ _ g2 r2
  rw [e2] at K1
  obtain ⟨f2, x2, g2, l2, r2⟩ := K1
  obtain ⟨a1, a2, a3, -⟩ := (hkf (by omega) p1 u2).2 a e2
  rw [q_bd_r rfl, x2, axB_s, if_neg (show ¬ (1 : Int32) = 0 by decide), m_is h0]
  have T2 := qc_tkn hN hu g2 (c := 44) (by decide)
  rcases e3 : q_tk t n 44 a.2 with z | p2
  · obtain ⟨f3, q, x3, g3, fr3⟩ := T2.1 z e3
    rw [q_bd_l rfl, x3, axB_s, if_pos rfl]
    exact bad _ _ _ g3 (r2.tr (fr3.lf sl))
  obtain ⟨f3, x3, g3, fr3⟩ := T2.2 p2 e3
  obtain ⟨b1, b2⟩ := (q_tk_f (by decide) a3).2 p2 e3
  rw [q_bd_r rfl, x3, axB_s, if_neg (show ¬ (1 : Int32) = 0 by decide), m_is hl0]
  have K2 := hk (by omega) p2 (acc ++ a.1) f0 f3 g3 (fr3.ln hd l2) (by rw [List.length_append]; omega) (r2.tr (fr3.lf sl))
  rcases e4 : krp p2 with z | c
  · rw [e4] at K2
    obtain ⟨f4, q, x4, g4, r4⟩ := K2
    rw [q_bd_l rfl, x4, axB_s, if_pos rfl]
    exact bad _ _ _ g4 r4
  rw [e4] at K2
  obtain ⟨f4, x4, g4, l4, r4⟩ := K2
  obtain ⟨c1, c2, c3, -⟩ := (hkf (by omega) p2 b2).2 c e4
  rw [q_bd_r rfl, x4, axB_s, if_neg (show ¬ (1 : Int32) = 0 by decide), m_is h0]
  have T3 := qc_tkn hN hu g4 (c := 93) (by decide)
  rcases e5 : q_tk t n 93 c.2 with z | p3
  · obtain ⟨f5, q, x5, g5, fr5⟩ := T3.1 z e5
    rw [q_bd_l rfl, x5, axB_s, if_pos rfl]
    exact bad _ _ _ g5 (r4.tr (fr5.lf sl))
  obtain ⟨f5, x5, g5, fr5⟩ := T3.2 p3 e5
  obtain ⟨d1, d2⟩ := (q_tk_f (by decide) c3).2 p3 e5
  rw [q_bd_r rfl, x5, axB_s, if_neg (show ¬ (1 : Int32) = 0 by decide)]
  unfold F_X4_readUnit_191 F_X4_readUnit_208
  have hlen : (acc ++ a.1 ++ c.1).length < 150 := by
    rw [List.length_append, List.length_append]
    omega
  rcases h4 with ⟨rfl, rfl⟩ | ⟨rfl, rfl⟩
  · obtain ⟨f6, x6, l6, t6, -, r6⟩ := qc_em (N := N) (t := t) (n := n) (q := (7, 0)) (v := 2005) hl hd (fr5.ln hd l4) hlen (by decide)
    rw [if_neg (show ¬ (1 : Int32) = 0 by decide), m_is hl0, x6, axBV_s, m_rz1]
    refine ⟨f6, rfl, t6 g5, ?_, (r4.tr (fr5.lf sl)).tr r6⟩
    rw [List.append_assoc, List.append_assoc] at l6
    exact l6
  · obtain ⟨f6, x6, l6, t6, -, r6⟩ := qc_em (N := N) (t := t) (n := n) (q := (8, 0)) (v := 2006) hl hd (fr5.ln hd l4) hlen (by decide)
    rw [if_pos rfl, m_is hl0, x6, axBV_s, m_rz1]
    refine ⟨f6, rfl, t6 g5, ?_, (r4.tr (fr5.lf sl)).tr r6⟩
    rw [List.append_assoc, List.append_assoc] at l6
    exact l6
theorem q_kvE (t : QR) (s e : Nat) (h : q_kv t s e ≠ -1) : 1000 + q_kv t s e = q_enc (1, q_kv t s e) := by
  unfold q_enc
  rw [if_neg (show ¬ (1 : Int32) = 0 by decide), if_pos rfl]
theorem qc_unit (hN : 2000 < N) (hu : LTa Z u) (hl : LLa Z sl) (hT : TXz Z) (hd : u + 1 < sl) (hn : n ≤ 150) (ho : op ≤ 6) (hk : op < 6 → QKr Z u sl t n pl (kr sl u (Int32.ofNat (op + 1))) krp) (hkf : op < 6 → ∀ p, p ≤ n → q_ft D p n (krp p)) : QKr Z u sl t n pl (F_X4_readUnit N kr sl u (Int32.ofNat op)) (fun p => q_un krp t n op p) := by
  intro p acc f0 f h hL ha hr
  have h0 := hu.1
  have hl0 := hl.1
  have hpn := h.2.2.2.2.2.2
  obtain ⟨hb1, hb2, -⟩ := q_skp_b q_isB t hpn
  change p ≤ q_bl t n p at hb1
  change q_bl t n p ≤ n at hb2
  have hss : q_bl t n (q_bl t n p) = q_bl t n p := q_skp_i q_isB t hpn
  obtain ⟨f1, e1, g1, fr1⟩ := qc_sign hN hu h
  have L1 := fr1.ln hd hL
  have r1 := hr.tr (fr1.lf sl)
  have hf := q_un_f (t := t) (op := op) (kr := krp) hkf hpn
  unfold F_X4_readUnit
  rw [m_is h0, e1, axB_s, m_isD7, axB_s]
  show QLs Z u sl t n pl acc f0 _ (q_un krp t n op p)
  unfold q_un at hf ⊢
  by_cases c1 : q_isD (q_B t n (q_bl t n p)) = true
  · rw [if_pos c1] at hf ⊢
    rw [if_pos c1, if_neg (show ¬ (1 : Int32) = 0 by decide), m_is h0]
    have en : q_nok t n (q_bl t n p) 0 999 = q_nok t n p 0 999 := by
      unfold q_nok
      rw [hss]
    have ef : q_nfk t n (q_bl t n p) = q_nfk t n p := by
      unfold q_nfk
      rw [hss]
    have r := qc_number hN hu g1 (lo := 0) (hi := 999) (by decide)
    rw [en, ef, hss] at r
    by_cases c2 : q_nok t n p 0 999
    · rw [if_pos (q_nb_t c2)] at hf ⊢
      obtain ⟨f2, e2, g2, -, fr2⟩ := r.1 ⟨rfl, c2⟩
      obtain ⟨z1, z2, z3, -⟩ := hf.2 _ rfl
      change 1 + p ≤ q_dgt t n (q_bl t n p) at z1
      change q_dgt t n (q_bl t n p) ≤ n at z3
      obtain ⟨f3, x3, l3, t3, v3, r3⟩ := qc_em (N := N) (t := t) (n := n) (q := (0, Int32.ofNat (q_num t n (q_bl t n p)))) (v := Int32.ofNat (q_num t n (q_bl t n p))) hl hd (fr2.ln hd L1) (by omega) (by unfold q_enc; rw [if_pos rfl])
      have g3 := t3 g2
      rw [e2, axB_s, m_is hl0, x3, axBV_s, m_gi h0, g3.2.2.1, if_pos rfl, m_rz1]
      exact ⟨f3, rfl, g3, l3, (r1.tr (fr2.lf sl)).tr r3⟩
    · rw [if_neg (q_nb_f c2)]
      obtain ⟨f2, q, x, e2, -, g2, fr2⟩ := r.2 fun z => c2 z.2
      rw [if_pos rfl, if_pos rfl] at g2
      obtain ⟨f3, x3, t3, r3⟩ := qc_emg (N := N) (t := t) (n := n) hl hd f2 x
      have g3 := t3 g2
      rw [e2, axB_s, m_is hl0, x3, axBV_s, m_gi h0, g3.2.2.1, if_neg (q_nfk_z _ _ _), m_rz0]
      exact ⟨f3, q, rfl, g3, (r1.tr (fr2.lf sl)).tr r3⟩
  rw [if_neg c1] at hf ⊢
  rw [if_neg c1, if_pos rfl]
  by_cases c2 : q_B t n (q_bl t n p) = 40
  · rw [if_pos c2] at hf ⊢
    rw [if_pos c2]
    obtain ⟨hlt, -⟩ := q_B_lt (by decide) c2
    by_cases c6 : 6 ≤ op
    · rw [if_pos c6, if_neg (show ¬ Int32.ofNat op < 6 from qi_ngt (j := 6) (by omega) (by omega)), m_gi h0, g1.2.1, m_is h0]
      obtain ⟨f2, e2, g2, fr2⟩ := qc_fails (N := N) h0 g1 3 (Int32.ofNat (q_bl t n p))
      rw [if_pos rfl, if_pos rfl] at g2
      rw [e2, axB_s, m_rz0]
      exact ⟨f2, _, rfl, g2, r1.tr (fr2.lf sl)⟩
    rw [if_neg c6, if_pos (show Int32.ofNat op < 6 from qi_gt (j := 6) (by omega) (by omega)), m_gi h0, g1.2.1, m_pi h0, m_is hl0, qi_s, qi_s]
    have g2 := g1.at (q := q_bl t n p + 1) (by omega)
    have fr2 : CFr f1 (ax2 f1 u 3 (Int32.ofNat (q_bl t n p + 1))) u := CFr.w f1 _ (by omega)
    have K1 := hk (by omega) (q_bl t n p + 1) acc f0 _ g2 (fr2.ln hd L1) (by omega) (r1.tr (fr2.lf sl))
    unfold q_par
    rcases e3 : krp (q_bl t n p + 1) with z | a
    · rw [e3] at K1
      obtain ⟨f3, q, x3, g3, r3⟩ := K1
      rw [q_bd_l rfl, x3, axB_s, if_pos rfl, m_rz0]
      exact ⟨f3, q, rfl, g3, r3⟩
    rw [e3] at K1
    obtain ⟨f3, x3, g3, l3, r3⟩ := K1
    rw [q_bd_r rfl, x3, axB_s, if_neg (show ¬ (1 : Int32) = 0 by decide), m_is h0]
    have T3 := qc_tkn hN hu g3 (c := 41) (by decide)
    rcases e4 : q_tk t n 41 a.2 with z | p3
    · obtain ⟨f4, q, x4, g4, fr4⟩ := T3.1 z e4
      rw [q_bd_l rfl, x4, axB_s, if_pos rfl, m_rz0]
      exact ⟨f4, q, rfl, g4, r3.tr (fr4.lf sl)⟩
    · obtain ⟨f4, x4, g4, fr4⟩ := T3.2 p3 e4
      rw [q_bd_r rfl, x4, axB_s, if_neg (show ¬ (1 : Int32) = 0 by decide), m_rz1]
      exact ⟨f4, rfl, g4, fr4.ln hd l3, r3.tr (fr4.lf sl)⟩
  rw [if_neg c2] at hf ⊢
  rw [if_neg c2, m_is h0]
  obtain ⟨f2, e2, g2, g6, fr2⟩ := qc_word hN hu g1
  rw [hss] at g2 g6
  have hwl := (q_skp_b q_isL t hb2).1
  change q_bl t n p ≤ q_wrl t n (q_bl t n p) at hwl
  have hwn := (q_skp_b q_isL t hb2).2.1
  change q_wrl t n (q_bl t n p) ≤ n at hwn
  have L2 := fr2.ln hd L1
  have r2 := r1.tr (fr2.lf sl)
  have hw := fun i (hi : i < 9) => qc_isWord hN hu hT (q_V_txt i hi) g2 g6 hwl
  rw [e2, axBV_s, m_is h0, axM_Tx, hw 0 (by omega), axB_s]
  by_cases c3 : q_isw t (q_bl t n p) (q_wrl t n (q_bl t n p)) (q_V 0) = true
  · rw [if_pos c3] at hf ⊢
    rw [if_pos c3, if_neg (show ¬ (1 : Int32) = 0 by decide)]
    exact qc_two hN hu hl hd hn ho hk hkf (Or.inl ⟨rfl, rfl⟩) g2 g6 L2 (by omega) r2
  rw [if_neg c3] at hf ⊢
  rw [if_neg c3, if_pos rfl, m_is h0, axM_Tx, hw 1 (by omega), axB_s]
  by_cases c4 : q_isw t (q_bl t n p) (q_wrl t n (q_bl t n p)) (q_V 1) = true
  · rw [if_pos c4] at hf ⊢
    rw [if_pos c4, if_neg (show ¬ (1 : Int32) = 0 by decide)]
    exact qc_two hN hu hl hd hn ho hk hkf (Or.inr ⟨rfl, rfl⟩) g2 g6 L2 (by omega) r2
  rw [if_neg c4] at hf ⊢
  rw [if_neg c4, if_pos rfl, qc_known hN hu hT g2 g6 hwl, axB_s]
  by_cases c5 : q_kv t (q_bl t n p) (q_wrl t n (q_bl t n p)) = -1
  · rw [if_pos c5, if_pos c5, m_gi h0, g6, m_is h0]
    obtain ⟨f3, e3, g3, fr3⟩ := qc_fails (N := N) h0 g2 1 (Int32.ofNat (q_bl t n p))
    rw [if_pos rfl, if_pos rfl] at g3
    rw [e3, axB_s, m_rz0]
    exact ⟨f3, _, rfl, g3, r2.tr (fr3.lf sl)⟩
  · rw [if_neg c5] at hf ⊢
    rw [if_neg c5, m_is hl0]
    obtain ⟨z1, z2, z3, -⟩ := hf.2 _ rfl
    change 1 + p ≤ q_wrl t n (q_bl t n p) at z1
    obtain ⟨f3, x3, l3, t3, -, r3⟩ := qc_em (N := N) (t := t) (n := n) hl hd L2 (by omega) (q_kvE t (q_bl t n p) (q_wrl t n (q_bl t n p)) c5)
    rw [x3, axBV_s, m_rz1]
    exact ⟨f3, rfl, t3 g2, l3, r2.tr r3⟩
theorem qc_prod_l (hN : 2000 < N) (hu : LTa Z u) (hl : LLa Z sl) (hd : u + 1 < sl) (hn : n ≤ 150) {un : Nat → QO2} (hk : QKr Z u sl t n pl (F_X4_readUnit N kr sl u (Int32.ofNat op)) un) (hkf : ∀ p, p ≤ n → q_ft D p n (un p)) : ∀ (k i p fu : Nat) (acc : QL) (f : Nat → Nat → Int32), k + i = 150 → i < p → k < fu → CT f u t n p 0 pl → CLn f sl acc → acc.length ≤ p → LFr u sl f0 f → QLs Z u sl t n pl acc f0 (F_X4_readProduct_13 N kr fu sl u (Int32.ofNat op) (Int32.ofNat i) (axM Z f)) (q_lp q_sP un t n k p) := by
  have h0 := hu.1
  have hl0 := hl.1
  intro k
  induction k with
  | zero =>
    intro i p fu acc f hi hip hfu h hL ha hr
    have := h.2.2.2.2.2.2
    omega
  | succ k ih =>
    intro i p fu acc f hi hip hfu h hL ha hr
    obtain ⟨fu, rfl⟩ : ∃ q, fu = q + 1 := ⟨fu - 1, by omega⟩
    have hpn := h.2.2.2.2.2.2
    obtain ⟨hb1, hb2, -⟩ := q_skp_b q_isB t hpn
    change p ≤ q_bl t n p at hb1
    change q_bl t n p ≤ n at hb2
    obtain ⟨f1, e1, g1, fr1⟩ := qc_sign hN hu h
    have L1 := fr1.ln hd hL
    have r1 := hr.tr (fr1.lf sl)
    show QLs Z u sl t n pl acc f0 (F_X4_readProduct_13b N kr (F_X4_readProduct_13 N kr fu) sl u (Int32.ofNat op) (Int32.ofNat i) (axM Z f)) _
    have go : ∀ (h9 v : Int32), q_sP (q_B t n (q_bl t n p)) = h9 → h9 ≠ -1 → v = q_enc (h9, 0) → q_B t n (q_bl t n p) ≠ -1 → (∀ T, (if q_B t n (q_bl t n p) = 42 then (F_X4_readProduct_100 N kr (F_X4_readProduct_13 N kr fu) sl u (Int32.ofNat op) (Int32.ofNat i) 2002 sl T) else (if q_B t n (q_bl t n p) = 47 then (F_X4_readProduct_100 N kr (F_X4_readProduct_13 N kr fu) sl u (Int32.ofNat op) (Int32.ofNat i) 2003 sl T) else (F_X4_readProduct_100 N kr (F_X4_readProduct_13 N kr fu) sl u (Int32.ofNat op) (Int32.ofNat i) 2004 sl T))) = F_X4_readProduct_100 N kr (F_X4_readProduct_13 N kr fu) sl u (Int32.ofNat op) (Int32.ofNat i) v sl T) → QLs Z u sl t n pl acc f0 (F_X4_readProduct_49 N kr (F_X4_readProduct_13 N kr fu) sl u (Int32.ofNat op) (Int32.ofNat i) (q_B t n (q_bl t n p)) (axM Z f1)) (q_lp q_sP un t n (k + 1) p) := by
      intro h9 v hs hne hv hbn hfin
      have hlt : q_bl t n p < n := by
        refine Nat.lt_of_not_le fun q => hbn ?_
        exact if_neg (by omega)
      unfold q_lp F_X4_readProduct_49
      rw [hs, if_neg hne, m_gi h0, g1.2.1, m_pi h0, m_is hl0, qi_s]
      have g2 := g1.at (q := q_bl t n p + 1) (by omega)
      have fr2 : CFr f1 (ax2 f1 u 3 (Int32.ofNat (q_bl t n p + 1))) u := CFr.w f1 _ (by omega)
      have K1 := hk (q_bl t n p + 1) acc f0 _ g2 (fr2.ln hd L1) (by omega) (r1.tr (fr2.lf sl))
      rcases e3 : un (q_bl t n p + 1) with z | a
      · rw [e3] at K1
        obtain ⟨f3, q, x3, g3, r3⟩ := K1
        rw [q_bd_l rfl, x3, axB_s, if_pos rfl, m_rz0]
        exact ⟨f3, q, rfl, g3, r3⟩
      rw [e3] at K1
      obtain ⟨f3, x3, g3, l3, r3⟩ := K1
      obtain ⟨a1, a2, a3, -⟩ := (hkf _ (by omega)).2 a e3
      rw [q_bd_r rfl, x3, axB_s, if_neg (show ¬ (1 : Int32) = 0 by decide)]
      refine hfin _ ▸ ?_
      unfold F_X4_readProduct_100
      obtain ⟨f4, x4, l4, t4, -, r4⟩ := qc_em (N := N) (t := t) (n := n) (q := (h9, 0)) (v := v) hl hd l3 (by rw [List.length_append]; omega) hv
      rw [m_is hl0, x4, axBV_s, qi_s]
      have I := ih (i + 1) a.2 fu (acc ++ a.1 ++ [(h9, 0)]) f4 (by omega) (by omega) (by omega) (t4 g3) l4 (by rw [List.length_append, List.length_append]; show acc.length + a.1.length + 1 ≤ a.2; omega) (r3.tr r4)
      rcases e5 : q_lp q_sP un t n k a.2 with z | y
      · rw [e5] at I
        rw [q_bd_l rfl]
        exact I
      · rw [e5] at I
        rw [q_bd_r rfl]
        obtain ⟨f5, x5, g5, l5, r5⟩ := I
        refine ⟨f5, x5, g5, ?_, r5⟩
        rw [List.append_assoc, List.append_assoc] at l5
        exact l5
    unfold F_X4_readProduct_13b
    rw [if_neg (show ¬ (150 : Int32) ≤ Int32.ofNat i from qi_nge (i := 150) (by omega) (by omega)), m_is h0, e1, axB_s]
    by_cases c42 : q_B t n (q_bl t n p) = 42
    · rw [if_pos c42]
      exact go 4 2002 (by unfold q_sP; rw [if_pos c42]) (by decide) (by decide) (by rw [c42]; decide) (fun T => by rw [if_pos c42])
    rw [if_neg c42]
    by_cases c47 : q_B t n (q_bl t n p) = 47
    · rw [if_pos c47]
      exact go 5 2003 (by unfold q_sP; rw [if_neg c42, if_pos c47]) (by decide) (by decide) (by rw [c47]; decide) (fun T => by rw [if_neg c42, if_pos c47])
    rw [if_neg c47]
    by_cases c37 : q_B t n (q_bl t n p) = 37
    · rw [if_pos c37]
      exact go 6 2004 (by unfold q_sP; rw [if_neg c42, if_neg c47, if_pos c37]) (by decide) (by decide) (by rw [c37]; decide) (fun T => by rw [if_neg c42, if_neg c47])
    rw [if_neg c37]
    unfold q_lp
    rw [if_pos (show q_sP (q_B t n (q_bl t n p)) = -1 by unfold q_sP; rw [if_neg c42, if_neg c47, if_neg c37]), m_rz1]
    exact ⟨f1, rfl, g1, by rw [List.append_nil]; exact L1, r1⟩
theorem qc_prod (hN : 2000 < N) (hu : LTa Z u) (hl : LLa Z sl) (hd : u + 1 < sl) (hn : n ≤ 150) {un : Nat → QO2} (hk : QKr Z u sl t n pl (F_X4_readUnit N kr sl u (Int32.ofNat op)) un) (hkf : ∀ p, p ≤ n → q_ft D p n (un p)) : QKr Z u sl t n pl (F_X4_readProduct N kr sl u (Int32.ofNat op)) (fun p => q_ch q_sP un t n p) := by
  intro p acc f0 f h hL ha hr
  have hl0 := hl.1
  have hpn := h.2.2.2.2.2.2
  have K1 := hk p acc f0 f h hL ha hr
  show QLs Z u sl t n pl acc f0 _ (q_ch q_sP un t n p)
  unfold F_X4_readProduct q_ch
  rw [m_is hl0]
  rcases e1 : un p with z | a
  · rw [e1] at K1
    obtain ⟨f1, q, x1, g1, r1⟩ := K1
    rw [q_bd_l rfl, x1, axB_s, if_pos rfl, m_rz0]
    exact ⟨f1, q, rfl, g1, r1⟩
  rw [e1] at K1
  obtain ⟨f1, x1, g1, l1, r1⟩ := K1
  obtain ⟨a1, a2, a3, -⟩ := (hkf p hpn).2 a e1
  rw [q_bd_r rfl, x1, axB_s, if_neg (show ¬ (1 : Int32) = 0 by decide)]
  have I := qc_prod_l (N := N) (kr := kr) (f0 := f0) hN hu hl hd hn hk hkf 150 0 a.2 N (acc ++ a.1) f1 (by omega) (by omega) (by omega) g1 l1 (by rw [List.length_append]; omega) r1
  change QLs Z u sl t n pl (acc ++ a.1) f0 (F_X4_readProduct_13 N kr N sl u (Int32.ofNat op) 0 (axM Z f1)) _ at I
  rcases e5 : q_lp q_sP un t n 150 a.2 with z | y
  · rw [e5] at I
    rw [q_bd_l rfl]
    exact I
  · rw [e5] at I
    rw [q_bd_r rfl]
    obtain ⟨f5, x5, g5, l5, r5⟩ := I
    refine ⟨f5, x5, g5, ?_, r5⟩
    rw [List.append_assoc] at l5
    exact l5
theorem qc_sum_l (hN : 2000 < N) (hu : LTa Z u) (hl : LLa Z sl) (hd : u + 1 < sl) (hn : n ≤ 150) {un : Nat → QO2} (hk : QKr Z u sl t n pl (F_X4_readProduct N kr sl u (Int32.ofNat op)) un) (hkf : ∀ p, p ≤ n → q_ft D p n (un p)) : ∀ (k i p fu : Nat) (acc : QL) (f : Nat → Nat → Int32), k + i = 150 → i < p → k < fu → CT f u t n p 0 pl → CLn f sl acc → acc.length ≤ p → LFr u sl f0 f → QLs Z u sl t n pl acc f0 (F_X4_readSum_13 N kr fu sl u (Int32.ofNat op) (Int32.ofNat i) (axM Z f)) (q_lp q_sS un t n k p) := by
  have h0 := hu.1
  have hl0 := hl.1
  intro k
  induction k with
  | zero =>
    intro i p fu acc f hi hip hfu h hL ha hr
    have := h.2.2.2.2.2.2
    omega
  | succ k ih =>
    intro i p fu acc f hi hip hfu h hL ha hr
    obtain ⟨fu, rfl⟩ : ∃ q, fu = q + 1 := ⟨fu - 1, by omega⟩
    have hpn := h.2.2.2.2.2.2
    obtain ⟨hb1, hb2, -⟩ := q_skp_b q_isB t hpn
    change p ≤ q_bl t n p at hb1
    change q_bl t n p ≤ n at hb2
    obtain ⟨f1, e1, g1, fr1⟩ := qc_sign hN hu h
    have L1 := fr1.ln hd hL
    have r1 := hr.tr (fr1.lf sl)
    show QLs Z u sl t n pl acc f0 (F_X4_readSum_13b N kr (F_X4_readSum_13 N kr fu) sl u (Int32.ofNat op) (Int32.ofNat i) (axM Z f)) _
    have go : ∀ (h9 v : Int32), q_sS (q_B t n (q_bl t n p)) = h9 → h9 ≠ -1 → v = q_enc (h9, 0) → q_B t n (q_bl t n p) ≠ -1 → (∀ T, (if q_B t n (q_bl t n p) = 43 then (F_X4_readSum_80 N kr (F_X4_readSum_13 N kr fu) sl u (Int32.ofNat op) (Int32.ofNat i) 2000 sl T) else (F_X4_readSum_80 N kr (F_X4_readSum_13 N kr fu) sl u (Int32.ofNat op) (Int32.ofNat i) 2001 sl T)) = F_X4_readSum_80 N kr (F_X4_readSum_13 N kr fu) sl u (Int32.ofNat op) (Int32.ofNat i) v sl T) → QLs Z u sl t n pl acc f0 (F_X4_readSum_42 N kr (F_X4_readSum_13 N kr fu) sl u (Int32.ofNat op) (Int32.ofNat i) (q_B t n (q_bl t n p)) (axM Z f1)) (q_lp q_sS un t n (k + 1) p) := by
      intro h9 v hs hne hv hbn hfin
      have hlt : q_bl t n p < n := by
        refine Nat.lt_of_not_le fun q => hbn ?_
        exact if_neg (by omega)
      unfold q_lp F_X4_readSum_42
      rw [hs, if_neg hne, m_gi h0, g1.2.1, m_pi h0, m_is hl0, qi_s]
      have g2 := g1.at (q := q_bl t n p + 1) (by omega)
      have fr2 : CFr f1 (ax2 f1 u 3 (Int32.ofNat (q_bl t n p + 1))) u := CFr.w f1 _ (by omega)
      have K1 := hk (q_bl t n p + 1) acc f0 _ g2 (fr2.ln hd L1) (by omega) (r1.tr (fr2.lf sl))
      rcases e3 : un (q_bl t n p + 1) with z | a
      · rw [e3] at K1
        obtain ⟨f3, q, x3, g3, r3⟩ := K1
        rw [q_bd_l rfl, x3, axB_s, if_pos rfl, m_rz0]
        exact ⟨f3, q, rfl, g3, r3⟩
      rw [e3] at K1
      obtain ⟨f3, x3, g3, l3, r3⟩ := K1
      obtain ⟨a1, a2, a3, -⟩ := (hkf _ (by omega)).2 a e3
      rw [q_bd_r rfl, x3, axB_s, if_neg (show ¬ (1 : Int32) = 0 by decide)]
      refine hfin _ ▸ ?_
      unfold F_X4_readSum_80
      obtain ⟨f4, x4, l4, t4, -, r4⟩ := qc_em (N := N) (t := t) (n := n) (q := (h9, 0)) (v := v) hl hd l3 (by rw [List.length_append]; omega) hv
      rw [m_is hl0, x4, axBV_s, qi_s]
      have I := ih (i + 1) a.2 fu (acc ++ a.1 ++ [(h9, 0)]) f4 (by omega) (by omega) (by omega) (t4 g3) l4 (by rw [List.length_append, List.length_append]; show acc.length + a.1.length + 1 ≤ a.2; omega) (r3.tr r4)
      rcases e5 : q_lp q_sS un t n k a.2 with z | y
      · rw [e5] at I
        rw [q_bd_l rfl]
        exact I
      · rw [e5] at I
        rw [q_bd_r rfl]
        obtain ⟨f5, x5, g5, l5, r5⟩ := I
        refine ⟨f5, x5, g5, ?_, r5⟩
        rw [List.append_assoc, List.append_assoc] at l5
        exact l5
    unfold F_X4_readSum_13b
    rw [if_neg (show ¬ (150 : Int32) ≤ Int32.ofNat i from qi_nge (i := 150) (by omega) (by omega)), m_is h0, e1, axB_s]
    by_cases c43 : q_B t n (q_bl t n p) = 43
    · rw [if_pos c43]
      exact go 2 2000 (by unfold q_sS; rw [if_pos c43]) (by decide) (by decide) (by rw [c43]; decide) (fun T => by rw [if_pos c43])
    rw [if_neg c43]
    by_cases c45 : q_B t n (q_bl t n p) = 45
    · rw [if_pos c45]
      exact go 3 2001 (by unfold q_sS; rw [if_neg c43, if_pos c45]) (by decide) (by decide) (by rw [c45]; decide) (fun T => by rw [if_neg c43])
    rw [if_neg c45]
    unfold q_lp
    rw [if_pos (show q_sS (q_B t n (q_bl t n p)) = -1 by unfold q_sS; rw [if_neg c43, if_neg c45]), m_rz1]
    exact ⟨f1, rfl, g1, by rw [List.append_nil]; exact L1, r1⟩
theorem qc_sum (hN : 2000 < N) (hu : LTa Z u) (hl : LLa Z sl) (hd : u + 1 < sl) (hn : n ≤ 150) {un : Nat → QO2} (hk : QKr Z u sl t n pl (F_X4_readProduct N kr sl u (Int32.ofNat op)) un) (hkf : ∀ p, p ≤ n → q_ft D p n (un p)) : QKr Z u sl t n pl (F_X4_readSum N kr sl u (Int32.ofNat op)) (fun p => q_ch q_sS un t n p) := by
  intro p acc f0 f h hL ha hr
  have hl0 := hl.1
  have hpn := h.2.2.2.2.2.2
  have K1 := hk p acc f0 f h hL ha hr
  show QLs Z u sl t n pl acc f0 _ (q_ch q_sS un t n p)
  unfold F_X4_readSum q_ch
  rw [m_is hl0]
  rcases e1 : un p with z | a
  · rw [e1] at K1
    obtain ⟨f1, q, x1, g1, r1⟩ := K1
    rw [q_bd_l rfl, x1, axB_s, if_pos rfl, m_rz0]
    exact ⟨f1, q, rfl, g1, r1⟩
  rw [e1] at K1
  obtain ⟨f1, x1, g1, l1, r1⟩ := K1
  obtain ⟨a1, a2, a3, -⟩ := (hkf p hpn).2 a e1
  rw [q_bd_r rfl, x1, axB_s, if_neg (show ¬ (1 : Int32) = 0 by decide)]
  have I := qc_sum_l (N := N) (kr := kr) (f0 := f0) hN hu hl hd hn hk hkf 150 0 a.2 N (acc ++ a.1) f1 (by omega) (by omega) (by omega) g1 l1 (by rw [List.length_append]; omega) r1
  change QLs Z u sl t n pl (acc ++ a.1) f0 (F_X4_readSum_13 N kr N sl u (Int32.ofNat op) 0 (axM Z f1)) _ at I
  rcases e5 : q_lp q_sS un t n 150 a.2 with z | y
  · rw [e5] at I
    rw [q_bd_l rfl]
    exact I
  · rw [e5] at I
    rw [q_bd_r rfl]
    obtain ⟨f5, x5, g5, l5, r5⟩ := I
    refine ⟨f5, x5, g5, ?_, r5⟩
    rw [List.append_assoc] at l5
    exact l5
theorem qc_SM (hN : 2000 < N) (hu : LTa Z u) (hl : LLa Z sl) (hT : TXz Z) (hd : u + 1 < sl) (hn : n ≤ 150) : ∀ d op, op ≤ 6 → 7 ≤ d + op → QKr Z u sl t n pl (GG_X4_readSum N d sl u (Int32.ofNat op)) (fun p => q_SM t n d op p) := by
  intro d
  induction d with
  | zero => intro op h1 h2; omega
  | succ d ih =>
    intro op h1 h2
    have hk : op < 6 → QKr Z u sl t n pl (GG_X4_readSum N d sl u (Int32.ofNat (op + 1))) (fun p => q_SM t n d (op + 1) p) := fun h => ih (op + 1) (by omega) (by omega)
    have hkf : op < 6 → ∀ p, p ≤ n → q_ft (3 * (7 - (op + 1))) p n (q_SM t n d (op + 1) p) := fun h p hp => q_SM_f d (op + 1) p (by omega) (by omega) hp
    have U := qc_unit (pl := pl) (kr := GG_X4_readSum N d) hN hu hl hT hd hn h1 hk hkf
    have P := qc_prod hN hu hl hd hn U (fun p hp => q_un_f hkf hp)
    exact qc_sum hN hu hl hd hn P (fun p hp => q_PR_f (t := t) (p := p) hkf hp)
end
