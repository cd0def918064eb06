/-! the book: read -/
abbrev QO3 : Type := Sum (Int32 × Int32) (QR × Nat)
def q_ln (t : QR) (n s : Nat) (β : QR) (nl : Nat) : QO3 :=
  if q_nb t n s 0 59 = true then (if β (q_num t n (q_bl t n s)) = -1 then (if 8 ≤ nl then .inl (3, Int32.ofNat (q_bl t n s)) else if q_nb t n (q_dgt t n (q_bl t n s)) 0 999 = true then q_bd (q_tk t n 59 (q_dgt t n (q_bl t n (q_dgt t n (q_bl t n s))))) fun p3 => .inr (q_set β (q_num t n (q_bl t n s)) (Int32.ofNat (q_num t n (q_bl t n (q_dgt t n (q_bl t n s))))), p3) else .inl (q_nfk t n (q_dgt t n (q_bl t n s)), Int32.ofNat (q_bl t n (q_dgt t n (q_bl t n s))))) else .inl (2, Int32.ofNat (q_bl t n s))) else .inl (q_nfk t n s, Int32.ofNat (q_bl t n s))
def q_lns (t : QR) (n : Nat) : Nat → Nat → QR → Nat → QO3
  | 0, _, β, nl => .inr (β, nl)
  | k + 1, p, β, nl => if n ≤ q_bl t n p then .inr (β, nl) else q_bd (q_ln t n (q_bl t n p) β nl) fun z => q_lns t n k z.2 z.1 (nl + 1)
section
variable {Z : AxS} {b m u sb N n s nl : Nat} {f g f0 g0 : Nat → Nat → Int32} {t β : QR} {pl : Int32}
theorem q_ln_f (hs : s ≤ n) : (∀ z, q_ln t n s β nl = .inl z → z.1 ≠ 0) ∧ ∀ z, q_ln t n s β nl = .inr z → s < z.2 ∧ z.2 ≤ n ∧ nl < 8 := by
  obtain ⟨b1, b2, -⟩ := q_skp_b q_isB t hs
  change s ≤ q_bl t n s at b1
  obtain ⟨b3, b4, -⟩ := q_skp_b q_isD t b2
  change q_bl t n s ≤ q_dgt t n (q_bl t n s) at b3
  change q_dgt t n (q_bl t n s) ≤ n at b4
  obtain ⟨b5, b6, -⟩ := q_skp_b q_isB t b4
  change q_dgt t n (q_bl t n s) ≤ q_bl t n (q_dgt t n (q_bl t n s)) at b5
  obtain ⟨b7, b8, -⟩ := q_skp_b q_isD t b6
  change q_bl t n (q_dgt t n (q_bl t n s)) ≤ q_dgt t n (q_bl t n (q_dgt t n (q_bl t n s))) at b7
  change q_dgt t n (q_bl t n (q_dgt t n (q_bl t n s))) ≤ n at b8
  unfold q_ln
  by_cases c1 : q_nb t n s 0 59 = true
  · rw [if_pos c1]
    by_cases c2 : β (q_num t n (q_bl t n s)) = -1
    · rw [if_pos c2]
      by_cases c3 : 8 ≤ nl
      · rw [if_pos c3]
        exact ⟨fun z e => (by cases e; exact (show ¬ (3 : Int32) = 0 by decide)), fun z e => (by cases e)⟩
      · rw [if_neg c3]
        by_cases c4 : q_nb t n (q_dgt t n (q_bl t n s)) 0 999 = true
        · rw [if_pos c4]
          rcases e : q_tk t n 59 (q_dgt t n (q_bl t n (q_dgt t n (q_bl t n s)))) with z | y
          · rw [q_bd_l rfl]
            exact ⟨fun y q => (by cases q; exact (q_tk_f (by decide) b8).1 z e), fun y q => (by cases q)⟩
          · rw [q_bd_r rfl]
            obtain ⟨y1, y2⟩ := (q_tk_f (by decide) b8).2 y e
            exact ⟨fun y q => (by cases q), fun z q => (by cases q; exact ⟨by show s < y; omega, y2, by omega⟩)⟩
        · rw [if_neg c4]
          exact ⟨fun z e => (by cases e; exact q_nfk_z _ _ _), fun z e => (by cases e)⟩
    · rw [if_neg c2]
      exact ⟨fun z e => (by cases e; exact (show ¬ (2 : Int32) = 0 by decide)), fun z e => (by cases e)⟩
  · rw [if_neg c1]
    exact ⟨fun z e => (by cases e; exact q_nfk_z _ _ _), fun z e => (by cases e)⟩
theorem q_lns_f : ∀ k p β nl, p ≤ n → nl ≤ 8 → (∀ z, q_lns t n k p β nl = .inl z → z.1 ≠ 0) ∧ ∀ z, q_lns t n k p β nl = .inr z → z.2 ≤ 8 := by
  intro k
  induction k with
  | zero =>
    intro p β nl hp h8
    exact ⟨fun z e => (by cases e), fun z e => (by cases e; exact h8)⟩
  | succ k ih =>
    intro p β nl hp h8
    unfold q_lns
    by_cases c : n ≤ q_bl t n p
    · rw [if_pos c]
      exact ⟨fun z e => (by cases e), fun z e => (by cases e; exact h8)⟩
    · rw [if_neg c]
      have F := q_ln_f (t := t) (β := β) (nl := nl) (q_skp_b q_isB t hp).2.1
      change (∀ z, q_ln t n (q_bl t n p) β nl = .inl z → z.1 ≠ 0) ∧ ∀ z, q_ln t n (q_bl t n p) β nl = .inr z → q_bl t n p < z.2 ∧ z.2 ≤ n ∧ nl < 8 at F
      rcases e : q_ln t n (q_bl t n p) β nl with z | z
      · rw [q_bd_l rfl]
        exact ⟨fun y q => (by cases q; exact F.1 z e), fun y q => (by cases q)⟩
      · rw [q_bd_r rfl]
        obtain ⟨a1, a2, a3⟩ := F.2 z e
        exact ih z.2 z.1 (nl + 1) a2 (by omega)
def QBs (Z : AxS) (u sb : Nat) (t : QR) (n : Nat) (pl : Int32) (nl : Nat) (f : Nat → Nat → Int32) (r : Option (Int32 × AxS)) (o : QO3) : Prop := match o with
  | .inl z => ∃ f' q, r = some (0, axM Z f') ∧ CT f' u t n q z.1 z.2 ∧ LFr u sb f f'
  | .inr z => ∃ f', r = some (1, axM Z f') ∧ CT f' u t n z.2 0 pl ∧ clB f' sb z.1 (nl + 1) ∧ LFr u sb f f'
theorem CFr.cb {u sb : Nat} {f g : Nat → Nat → Int32} (h : CFr f g u) (hd : u + 1 < sb) {β : QR} {nl : Nat} (hL : clB f sb β nl) : clB g sb β nl := by
  unfold clB
  rw [h.1 sb (by omega), h.1 (sb + 1) (by omega)]
  exact hL
theorem qc_line (hN : 2000 < N) (hu : LTa Z u) (hb : LBo Z sb) (hd : u + 1 < sb) (hnl : nl ≤ 8) (h : CT f u t n s 0 pl) (hB : clB f sb β nl) (hr : LFr u sb f0 f) : QBs Z u sb t n pl nl f0 (F_X0_readLine N sb u (axM Z f)) (q_ln t n s β nl) := by
  have h0 := hu.1
  obtain ⟨hb0, p0, s0⟩ := hb
  have r := qc_number hN hu h (lo := 0) (hi := 59) (by decide)
  unfold F_X0_readLine q_ln
  rw [m_is h0]
  by_cases c1 : q_nok t n s 0 59
  · obtain ⟨f1, e1, g1, g7, fr1⟩ := r.1 ⟨rfl, c1⟩
    have hv := (q_nok_b (lo := 0) (hi := 59) c1 (by omega) (by omega)).2
    have B1 := fr1.cb hd hB
    have r1 := hr.tr (fr1.lf sb)
    rw [if_pos (q_nb_t c1), e1, axB_s, if_neg (q_nm1 (by omega)), m_gr hb0 p0, m_atn N s0 (show q_num t n (q_bl t n s) < 60 by omega) (by omega), axB_s, B1.2 _ (by omega)]
    by_cases c2 : β (q_num t n (q_bl t n s)) = -1
    · rw [if_pos c2, if_pos c2, m_gi hb0, B1.1]
      by_cases c3 : 8 ≤ nl
      · obtain ⟨f2, e2, g2, fr2⟩ := qc_fails (N := N) h0 g1 3 (Int32.ofNat (q_bl t n s))
        rw [if_pos rfl, if_pos rfl] at g2
        rw [if_pos c3, if_neg (show ¬ Int32.ofNat nl < 8 from qi_ngt (j := 8) c3 (by omega)), m_gi h0, g7, m_is h0, e2, axB_s, m_rz0]
        exact ⟨f2, _, rfl, g2, r1.tr (fr2.lf sb)⟩
      rw [if_neg c3, if_pos (show Int32.ofNat nl < 8 from qi_gt (j := 8) (by omega) (by omega)), m_gr hb0 p0, m_is h0]
      have r2 := qc_number hN hu g1 (lo := 0) (hi := 999) (by decide)
      have pw : ∀ v (g : Nat → Nat → Int32), (∀ q k pl, CT g u t n q k pl → CT (ax2 (ax2 g (sb + 1) (q_num t n (q_bl t n s)) v) sb 1 (ax2 g (sb + 1) (q_num t n (q_bl t n s)) v sb 1 + 1)) u t n q k pl) ∧ LFr u sb g (ax2 (ax2 g (sb + 1) (q_num t n (q_bl t n s)) v) sb 1 (ax2 g (sb + 1) (q_num t n (q_bl t n s)) v sb 1 + 1)) := fun v g => ⟨fun q k pl hg => RFc.ct hg (by rw [ax2_n _ _ _ _ (by omega), ax2_n _ _ _ _ (by omega)]) (by rw [ax2_n _ _ _ _ (by omega), ax2_n _ _ _ _ (by omega)]), fun x a b c => by rw [ax2_n _ _ _ _ b, ax2_n _ _ _ _ c], by rw [ax2_n _ _ _ _ (by omega), ax2_n _ _ _ _ (by omega)]⟩
      by_cases c4 : q_nok t n (q_dgt t n (q_bl t n s)) 0 999
      · obtain ⟨f2, e2, g2, -, fr2⟩ := r2.1 ⟨rfl, c4⟩
        have B2 := fr2.cb hd B1
        rw [if_pos (q_nb_t c4), e2, axB_s, m_putn N s0 (show q_num t n (q_bl t n s) < 60 by omega) (by omega), axBV_s, m_gi hb0, m_pi hb0, m_is h0]
        obtain ⟨w1, w2⟩ := pw (Int32.ofNat (q_num t n (q_bl t n (q_dgt t n (q_bl t n s))))) f2
        have g3 := w1 _ _ _ g2
        have B3 : clB (ax2 (ax2 f2 (sb + 1) (q_num t n (q_bl t n s)) (Int32.ofNat (q_num t n (q_bl t n (q_dgt t n (q_bl t n s)))))) sb 1 (ax2 f2 (sb + 1) (q_num t n (q_bl t n s)) (Int32.ofNat (q_num t n (q_bl t n (q_dgt t n (q_bl t n s))))) sb 1 + 1)) sb (q_set β (q_num t n (q_bl t n s)) (Int32.ofNat (q_num t n (q_bl t n (q_dgt t n (q_bl t n s)))))) (nl + 1) := by
          refine ⟨by rw [ax2_k, ax2_n _ _ _ _ (by omega), B2.1, qi_s], fun i hi => ?_⟩
          rw [ax2_n _ _ _ _ (by omega), ax2_a]
          show _ = if i = q_num t n (q_bl t n s) then _ else _
          by_cases c : i = q_num t n (q_bl t n s)
          · rw [if_pos c, if_pos c]
          · rw [if_neg c, if_neg c, B2.2 i hi]
        have r3 := (r1.tr (fr2.lf sb)).tr w2
        have T := qc_tkn hN hu g3 (c := 59) (by decide)
        rcases e3 : q_tk t n 59 (q_dgt t n (q_bl t n (q_dgt t n (q_bl t n s)))) with z | p3
        · obtain ⟨f4, q, x4, g4, fr4⟩ := T.1 z e3
          rw [q_bd_l rfl, x4, axB_s, m_rz0]
          exact ⟨f4, q, rfl, g4, r3.tr (fr4.lf sb)⟩
        · obtain ⟨f4, x4, g4, fr4⟩ := T.2 p3 e3
          rw [q_bd_r rfl, x4, axB_s, m_rz1]
          exact ⟨f4, rfl, g4, fr4.cb hd B3, r3.tr (fr4.lf sb)⟩
      · obtain ⟨f2, q, x, e2, -, g2, fr2⟩ := r2.2 fun z => c4 z.2
        rw [if_pos rfl, if_pos rfl] at g2
        rw [if_neg (q_nb_f c4), e2, axB_s, m_putn N s0 (show q_num t n (q_bl t n s) < 60 by omega) (by omega), axBV_s, m_gi hb0, m_pi hb0, m_is h0]
        obtain ⟨w1, w2⟩ := pw x f2
        have g3 := w1 _ _ _ g2
        obtain ⟨f4, q4, x4, g4, fr4⟩ := (qc_takes hN hu g3 (c := 59) (by decide)).2 fun z => q_nfk_z _ _ _ z.1
        rw [if_neg (q_nfk_z _ _ _), if_neg (q_nfk_z _ _ _)] at g4
        rw [x4, axB_s, m_rz0]
        exact ⟨f4, q4, rfl, g4, ((r1.tr (fr2.lf sb)).tr w2).tr (fr4.lf sb)⟩
    · obtain ⟨f2, e2, g2, fr2⟩ := qc_fails (N := N) h0 g1 2 (Int32.ofNat (q_bl t n s))
      rw [if_pos rfl, if_pos rfl] at g2
      rw [if_neg c2, if_neg c2, m_gi h0, g7, m_is h0, e2, axB_s, m_rz0]
      exact ⟨f2, _, rfl, g2, r1.tr (fr2.lf sb)⟩
  · obtain ⟨f1, q, x, e1, hx, g1, fr1⟩ := r.2 fun z => c1 z.2
    rw [if_pos rfl, if_pos rfl] at g1
    rw [if_neg (q_nb_f c1), e1, axB_s, if_pos (hx rfl), m_rz0]
    exact ⟨f1, q, rfl, g1, hr.tr (fr1.lf sb)⟩
theorem qc_lines (hN : 2000 < N) (hu : LTa Z u) (hb : LBo Z sb) (hd : u + 1 < sb) (ht : ∀ j, j < n → t j ≠ -1) : ∀ (k p nl fu : Nat) (β : QR) (f : Nat → Nat → Int32), n ≤ p + k → 10 < nl + fu → nl ≤ 8 → CT f u t n p 0 pl → clB f sb β nl → LFr u sb f0 f → match q_lns t n k p β nl with
    | .inl z => ∃ f' q, F_X0_readFrom_6 N fu sb u (Int32.ofNat nl) (axM Z f) = some (0, axM Z f') ∧ CT f' u t n q z.1 z.2 ∧ LFr u sb f0 f'
    | .inr z => ∃ f' q, F_X0_readFrom_6 N fu sb u (Int32.ofNat nl) (axM Z f) = some (1, axM Z f') ∧ CT f' u t n q 0 pl ∧ clB f' sb z.1 z.2 ∧ LFr u sb f0 f' := by
  have h0 := hu.1
  have stop : ∀ (p nl fu : Nat) (β : QR) (f : Nat → Nat → Int32), n ≤ q_bl t n p → 0 < fu → nl ≤ 8 → CT f u t n p 0 pl → clB f sb β nl → LFr u sb f0 f → ∃ f' q, F_X0_readFrom_6 N fu sb u (Int32.ofNat nl) (axM Z f) = some (1, axM Z f') ∧ CT f' u t n q 0 pl ∧ clB f' sb β nl ∧ LFr u sb f0 f' := by
    intro p nl fu β f hp hfu hnl h hB hr
    obtain ⟨fu, rfl⟩ : ∃ q, fu = q + 1 := ⟨fu - 1, by omega⟩
    obtain ⟨f1, e1, g1, fr1⟩ := qc_sign hN hu h
    refine ⟨f1, _, ?_, g1, fr1.cb hd hB, hr.tr (fr1.lf sb)⟩
    show F_X0_readFrom_6b N (F_X0_readFrom_6 N fu) sb u (Int32.ofNat nl) (axM Z f) = _
    unfold F_X0_readFrom_6b F_X0_readFrom_36
    rw [if_neg (show ¬ (100 : Int32) ≤ Int32.ofNat nl from qi_nge (i := 100) (by omega) (by omega)), m_is h0, e1, axB_s, if_pos ((q_B_end ht).mpr hp), m_gi h0, g1.2.2.1, if_pos rfl, m_rz1]
  intro k
  induction k with
  | zero =>
    intro p nl fu β f hp hfu hnl h hB hr
    refine stop p nl fu β f ?_ (by omega) hnl h hB hr
    have := (q_skp_b q_isB t h.2.2.2.2.2.2).1
    change p ≤ q_bl t n p at this
    omega
  | succ k ih =>
    intro p nl fu β f hp hfu hnl h hB hr
    unfold q_lns
    by_cases c : n ≤ q_bl t n p
    · rw [if_pos c]
      exact stop p nl fu β f c (by omega) hnl h hB hr
    rw [if_neg c]
    have hb := q_skp_b q_isB t h.2.2.2.2.2.2
    have hbl : p ≤ q_bl t n p := hb.1
    obtain ⟨fu, rfl⟩ : ∃ q, fu = q + 1 := ⟨fu - 1, by omega⟩
    obtain ⟨f1, e1, g1, fr1⟩ := qc_sign hN hu h
    have L := qc_line hN hu ‹LBo Z sb› hd hnl g1 (fr1.cb hd hB) (hr.tr (fr1.lf sb))
    have e6 : F_X0_readFrom_6 N (fu + 1) sb u (Int32.ofNat nl) (axM Z f) = axB (F_X0_readLine N sb u (axM Z f1)) fun x6 T5 => if x6 = 0 then (ax_rz 0 (some (0, T5))) else (F_X0_readFrom_6 N fu sb u (Int32.ofNat nl + 1) T5) := by
      show F_X0_readFrom_6b N (F_X0_readFrom_6 N fu) sb u (Int32.ofNat nl) (axM Z f) = _
      unfold F_X0_readFrom_6b
      rw [if_neg (show ¬ (100 : Int32) ≤ Int32.ofNat nl from qi_nge (i := 100) (by omega) (by omega)), m_is h0, e1, axB_s, if_neg (fun q => c ((q_B_end ht).mp q)), m_is (‹LBo Z sb›).1]
    have F := q_ln_f (t := t) (β := β) (nl := nl) hb.2.1
    change (∀ z, q_ln t n (q_bl t n p) β nl = .inl z → z.1 ≠ 0) ∧ ∀ z, q_ln t n (q_bl t n p) β nl = .inr z → q_bl t n p < z.2 ∧ z.2 ≤ n ∧ nl < 8 at F
    rw [e6]
    rcases e : q_ln t n (q_bl t n p) β nl with z | z
    · rw [e] at L
      obtain ⟨f2, q, x2, g2, r2⟩ := L
      rw [q_bd_l rfl, x2, axB_s, if_pos rfl, m_rz0]
      exact ⟨f2, q, rfl, g2, r2⟩
    · rw [e] at L
      obtain ⟨f2, x2, g2, B2, r2⟩ := L
      obtain ⟨a1, a2, a3⟩ := F.2 z e
      rw [q_bd_r rfl, x2, axB_s, if_neg (show ¬ (1 : Int32) = 0 by decide), qi_s]
      exact ih z.2 (nl + 1) fu z.1 f2 (by omega) (by omega) (by omega) g2 B2 r2
end
