/-! a law, evaluated: the class's stack and the model's -/
theorem qi_m1 {d : Nat} (h : 1 ≤ d) : Int32.ofNat d + (-1) = Int32.ofNat (d - 1) := by
  obtain ⟨e, rfl⟩ : ∃ e, d = e + 1 := ⟨d - 1, by omega⟩
  rw [Int32.ofNat_add]
  show Int32.ofNat e + 1 + (-1) = Int32.ofNat (e + 1 - 1)
  rw [Int32.add_assoc, show (1 : Int32) + (-1) = 0 by decide, Int32.add_zero]
  rfl
theorem qi_m2 {d : Nat} (h : 1 ≤ d) : Int32.ofNat d - 1 = Int32.ofNat (d - 1) := by
  rw [Int32.sub_eq_add_neg]
  exact qi_m1 h
def q_done (c u v : Int32) : Int32 := if c = 2000 then u + v else if c = 2001 then u - v else if c = 2002 then u * v else if c = 2003 then (if v = 0 then 0 else u / v) else if c = 2004 then (if v = 0 then 0 else u - u / v * v) else if c = 2005 then q_min u v else q_max u v
theorem m_done (N : Nat) (c u v : Int32) (S : AxS) : F_X4_done N c u v S = some (q_done c u v, S) := by
  unfold F_X4_done q_done
  simp only [m_min, m_max, axB_s]
  by_cases h : v = 0
  · simp only [if_pos h]
    repeat' split
    all_goals rfl
  · simp only [if_neg h, m_ne h]
    repeat' split
    all_goals rfl
def q_evc : List Int32 → QR → List Int32 → List Int32
  | [], _, st => st
  | c :: l, i, st => if c < 2000 then q_evc l i ((if c < 1000 then c else i (c - 1000).toNatClampNeg) :: st) else match st with
    | b :: a :: st => q_evc l i (q_done c a b :: st)
    | _ => []
def q_wfc : List Int32 → Nat → Prop
  | [], d => d = 1
  | c :: l, d => (c < 2000 ∧ (c < 1000 ∨ ∃ n, n ≤ 6 ∧ c = Int32.ofNat (1000 + n)) ∧ d + 1 ≤ 32 ∧ q_wfc l (d + 1)) ∨ (¬ c < 2000 ∧ 2 ≤ d ∧ q_wfc l (d - 1))
theorem qc_tolls_l {Z : AxS} {a : Nat} (N : Nat) (h : LLa Z a) (inp : QR) : ∀ (l : List Int32) (i fu : Nat) (st : List Int32) (f : Nat → Nat → Int32), l.length < fu → i + l.length ≤ 150 → f a 3 = Int32.ofNat (i + l.length) → (∀ k x, l[k]? = some x → f (a + 1) (i + k) = x) → q_wfc l st.length → st.length ≤ 32 → (∀ k, k < 7 → f (a + 2) k = inp k) → (∀ k, k < st.length → f (a + 3) k = st.getD (st.length - 1 - k) 0) →
    ∃ f', F_X4_tolls_74 N fu a (Int32.ofNat st.length) (Int32.ofNat i) (axM Z f) = some (q_max 0 (q_min 999 ((q_evc l inp st).headD 0)), axM Z f') ∧ ∀ x, x ≠ a + 3 → f' x = f x := by
  obtain ⟨h0, ⟨h1, h2⟩, ⟨h3, h4⟩, h5, h6⟩ := h
  intro l
  induction l with
  | nil =>
    intro i fu st f hfu hi hlen hcode hwf hst hinp hstk
    obtain ⟨fu, rfl⟩ : ∃ q, fu = q + 1 := ⟨fu - 1, by omega⟩
    show ∃ f', F_X4_tolls_74b N (F_X4_tolls_74 N fu) a (Int32.ofNat st.length) (Int32.ofNat i) (axM Z f) = _ ∧ _
    unfold F_X4_tolls_74b
    rw [m_gi h0, hlen, if_pos (show Int32.ofNat (i + ([] : List Int32).length) ≤ Int32.ofNat i from Int32.le_refl _)]
    have hw : st.length = 1 := hwf
    have e0 : f (a + 3) 0 = st.headD 0 := by
      rw [hstk 0 (by omega), hw]
      cases st <;> rfl
    simp only [m_gr h0 h5, qi_0, m_atn N h6 (show 0 < 32 by omega) (by omega), axB_s, m_min, m_max, e0]
    exact ⟨f, rfl, fun x _ => rfl⟩
  | cons c l ih =>
    intro i fu st f hfu hi hlen hcode hwf hst hinp hstk
    have hll : (c :: l).length = l.length + 1 := rfl
    rw [hll] at hfu hi hlen
    obtain ⟨fu, rfl⟩ : ∃ q, fu = q + 1 := ⟨fu - 1, by omega⟩
    show ∃ f', F_X4_tolls_74b N (F_X4_tolls_74 N fu) a (Int32.ofNat st.length) (Int32.ofNat i) (axM Z f) = _ ∧ _
    unfold F_X4_tolls_74b
    have ec : f (a + 1) i = c := hcode 0 c rfl
    have hcode' : ∀ k x, l[k]? = some x → f (a + 1) (i + 1 + k) = x := fun k x hx => by
      rw [show i + 1 + k = i + (k + 1) by omega]
      exact hcode (k + 1) x hx
    simp only [m_gi h0, m_gr h0 h1, m_gr h0 h3, m_gr h0 h5, m_atn N h2 (show i < 150 by omega) (by omega), axB_s, ec]
    rw [hlen, if_neg (show ¬ Int32.ofNat (i + (l.length + 1)) ≤ Int32.ofNat i by rw [qi_le (by omega) (by omega)]; omega)]
    rcases hwf with ⟨w1, w2, w3, w4⟩ | ⟨w1, w2, w3⟩
    · rw [if_pos w1]
      have e9 : q_evc (c :: l) inp st = q_evc l inp ((if c < 1000 then c else inp (c - 1000).toNatClampNeg) :: st) := by
        show (if c < 2000 then _ else _) = _
        rw [if_pos w1]
      rw [e9]
      have key : ∀ v : Int32, ∃ f', F_X4_tolls_176 N (F_X4_tolls_74 N fu) a (Int32.ofNat st.length) (Int32.ofNat i) v (Int32.ofNat st.length) (a + 3) (axM Z f) = some (q_max 0 (q_min 999 ((q_evc l inp (v :: st)).headD 0)), axM Z f') ∧ ∀ x, x ≠ a + 3 → f' x = f x := by
        intro v
        unfold F_X4_tolls_176 F_X4_tolls_182
        simp only [m_putn N h6 (show st.length < 32 by omega) (by omega), axBV_s, qi_s]
        obtain ⟨f', e, fr⟩ := ih (i + 1) fu (v :: st) (ax2 f (a + 3) st.length v) (by omega) (by omega) (by rw [ax2_n _ _ _ _ (by omega), hlen]; congr 1; omega) (fun k x hx => by rw [ax2_n _ _ _ _ (by omega)]; exact hcode' k x hx) w4 w3 (fun k hk => by rw [ax2_n _ _ _ _ (by omega)]; exact hinp k hk) (fun k hk => by
          have hk : k < st.length + 1 := hk
          rw [ax2_a]
          show _ = (v :: st).getD (st.length + 1 - 1 - k) 0
          by_cases e : k = st.length
          · rw [if_pos e, e, show st.length + 1 - 1 - st.length = 0 by omega]
            rfl
          · rw [if_neg e, hstk k (by omega), show st.length + 1 - 1 - k = (st.length - 1 - k) + 1 by omega]
            rfl)
        exact ⟨f', e, fun x hx => by rw [fr x hx, ax2_n _ _ _ _ hx]⟩
      by_cases c1 : c < 1000
      · rw [if_neg (Int32.not_le.mpr c1), if_pos c1]
        exact key c
      · rw [if_pos (Int32.not_lt.mp c1), if_neg c1]
        obtain ⟨n, hn, e⟩ := w2.resolve_left c1
        have e2 : c - 1000 = Int32.ofNat n := by
          rw [e, Int32.ofNat_add]
          show (1000 : Int32) + Int32.ofNat n - 1000 = _
          rw [Int32.sub_eq_add_neg, Int32.add_comm (1000 : Int32), Int32.add_assoc, show (1000 : Int32) + -1000 = 0 by decide, Int32.add_zero]
        rw [e2, m_atn N h4 (show n < 7 by omega) (by omega), axB_s, qi_tn (by omega), hinp n (by omega)]
        exact key (inp n)
    · rw [if_neg w1]
      match st, w2, w3, hst, hstk with
      | v :: u :: st, w2, w3, hst, hstk =>
        have hle : (v :: u :: st).length = st.length + 2 := rfl
        rw [hle] at w3 hst hstk ⊢
        have e9 : q_evc (c :: l) inp (v :: u :: st) = q_evc l inp (q_done c u v :: st) := by
          show (if c < 2000 then _ else _) = _
          rw [if_neg w1]
        rw [e9]
        have p1 : Int32.ofNat (st.length + 2) + (-1) = Int32.ofNat (st.length + 1) := qi_m1 (by omega)
        have p2 : Int32.ofNat (st.length + 1) - 1 = Int32.ofNat st.length := qi_m2 (by omega)
        have su : f (a + 3) st.length = u := by
          rw [hstk _ (by omega), show st.length + 2 - 1 - st.length = 1 by omega]
          rfl
        have sv : f (a + 3) (st.length + 1) = v := by
          rw [hstk _ (by omega), show st.length + 2 - 1 - (st.length + 1) = 0 by omega]
          rfl
        simp only [p1, p2, m_gr h0 h5, m_atn N h6 (show st.length < 32 by omega) (by omega), m_atn N h6 (show st.length + 1 < 32 by omega) (by omega), m_putn N h6 (show st.length < 32 by omega) (by omega), axB_s, axBV_s, m_done, su, sv, F_X4_tolls_182, qi_s]
        obtain ⟨f', e, fr⟩ := ih (i + 1) fu (q_done c u v :: st) (ax2 f (a + 3) st.length (q_done c u v)) (by omega) (by omega) (by rw [ax2_n _ _ _ _ (by omega), hlen]; congr 1; omega) (fun k x hx => by rw [ax2_n _ _ _ _ (by omega)]; exact hcode' k x hx) w3 (by show st.length + 1 ≤ 32; omega) (fun k hk => by rw [ax2_n _ _ _ _ (by omega)]; exact hinp k hk) (fun k hk => by
          have hk : k < st.length + 1 := hk
          rw [ax2_a]
          show _ = (q_done c u v :: st).getD (st.length + 1 - 1 - k) 0
          by_cases e : k = st.length
          · rw [if_pos e, e, show st.length + 1 - 1 - st.length = 0 by omega]
            rfl
          · rw [if_neg e, hstk k (by omega), show st.length + 1 - 1 - k = (st.length - 1 - k) + 1 by omega, show st.length + 2 - 1 - k = (st.length - 1 - k) + 1 + 1 by omega]
            rfl)
        exact ⟨f', e, fun x hx => by rw [fr x hx, ax2_n _ _ _ _ hx]⟩
theorem q_done_by {h : Int32} (h2 : 2 ≤ h) (h8 : h ≤ 8) (u v : Int32) : q_done (1998 + h) u v = q_by h u v := by
  obtain ⟨e, hb⟩ := qi_of (show ¬ h < 0 from fun q => absurd (Int32.lt_of_lt_of_le q (show (0 : Int32) ≤ 2 by decide)) (Int32.not_lt.mpr h2))
  generalize h.toNatClampNeg = n at e hb
  subst e
  have g2 : 2 ≤ n := by
    have : Int32.ofNat 2 ≤ Int32.ofNat n := h2
    rwa [qi_le (by omega) hb] at this
  have g8 : n ≤ 8 := by
    have : Int32.ofNat n ≤ Int32.ofNat 8 := h8
    rwa [qi_le hb (by omega)] at this
  have : n = 2 ∨ n = 3 ∨ n = 4 ∨ n = 5 ∨ n = 6 ∨ n = 7 ∨ n = 8 := by omega
  rcases this with rfl | rfl | rfl | rfl | rfl | rfl | rfl <;> rfl
theorem q_op_big {h : Int32} (h2 : 2 ≤ h) (h8 : h ≤ 8) : ¬ (1998 + h < 2000) ∧ h ≠ 0 ∧ h ≠ 1 := by
  obtain ⟨e, hb⟩ := qi_of (show ¬ h < 0 from fun q => absurd (Int32.lt_of_lt_of_le q (show (0 : Int32) ≤ 2 by decide)) (Int32.not_lt.mpr h2))
  generalize h.toNatClampNeg = n at e hb
  subst e
  have g2 : 2 ≤ n := by
    have : Int32.ofNat 2 ≤ Int32.ofNat n := h2
    rwa [qi_le (by omega) hb] at this
  have g8 : n ≤ 8 := by
    have : Int32.ofNat n ≤ Int32.ofNat 8 := h8
    rwa [qi_le hb (by omega)] at this
  have : n = 2 ∨ n = 3 ∨ n = 4 ∨ n = 5 ∨ n = 6 ∨ n = 7 ∨ n = 8 := by omega
  rcases this with rfl | rfl | rfl | rfl | rfl | rfl | rfl <;> decide
theorem q_nn {x : Int32} {n : Nat} (h0 : 0 ≤ x) (hn : x ≤ Int32.ofNat n) (hb : n < 2147483648) : ∃ j, j ≤ n ∧ x = Int32.ofNat j := by
  obtain ⟨e, hb2⟩ := qi_of (Int32.not_lt.mpr h0)
  refine ⟨x.toNatClampNeg, ?_, e⟩
  rw [e, qi_le hb2 hb] at hn
  exact hn
theorem q_ev_map (i : QR) : ∀ (l : QL) (d : Nat) (st : List Int32), q_wf l d → d = st.length → q_evc (l.map q_enc) i st = q_ev l i st ∧ q_wfc (l.map q_enc) d
  | [], d, st, h, hd => ⟨rfl, h⟩
  | q :: l, d, st, h, hd => by
    rcases h with ⟨w1, ⟨w2, w3⟩, w4, w5⟩ | ⟨w1, ⟨w2, w3⟩, w4, w5⟩ | ⟨⟨w1, w2⟩, w3, w4⟩
    · have e : q_enc q = q.2 := if_pos w1
      have b1 : q.2 < 1000 := Int32.lt_of_le_of_lt w3 (by decide)
      have b2 : q.2 < 2000 := Int32.lt_of_le_of_lt w3 (by decide)
      obtain ⟨i1, i2⟩ := q_ev_map i l (d + 1) (q.2 :: st) w5 (by rw [hd]; rfl)
      refine ⟨?_, Or.inl ⟨by rw [e]; exact b2, Or.inl (by rw [e]; exact b1), w4, i2⟩⟩
      show (if q_enc q < 2000 then _ else _) = (if q.1 = 0 then _ else _)
      rw [e, if_pos b2, if_pos w1, if_pos b1, i1]
    · have n0 : q.1 ≠ 0 := by rw [w1]; decide
      have e : q_enc q = 1000 + q.2 := by
        unfold q_enc
        rw [if_neg n0, if_pos w1]
      obtain ⟨n, hn, e2⟩ := q_nn w2 (show q.2 ≤ Int32.ofNat 6 from w3) (by omega)
      have e3 : q_enc q = Int32.ofNat (1000 + n) := by
        rw [e, e2]
        exact qi_add 1000 n
      have b2 : q_enc q < 2000 := by
        rw [e3]
        show Int32.ofNat (1000 + n) < Int32.ofNat 2000
        rw [qi_lt (by omega) (by omega)]
        omega
      have b1 : ¬ q_enc q < 1000 := by
        rw [e3]
        show ¬ Int32.ofNat (1000 + n) < Int32.ofNat 1000
        rw [qi_lt (by omega) (by omega)]
        omega
      have e4 : (q_enc q - 1000).toNatClampNeg = q.2.toNatClampNeg := by
        rw [e, Int32.sub_eq_add_neg, Int32.add_comm (1000 : Int32), Int32.add_assoc, show (1000 : Int32) + -1000 = 0 by decide, Int32.add_zero]
      obtain ⟨i1, i2⟩ := q_ev_map i l (d + 1) (i q.2.toNatClampNeg :: st) w5 (by rw [hd]; rfl)
      refine ⟨?_, Or.inl ⟨b2, Or.inr ⟨n, hn, e3⟩, w4, i2⟩⟩
      show (if q_enc q < 2000 then _ else _) = (if q.1 = 0 then _ else _)
      rw [if_pos b2, if_neg n0, if_pos w1, if_neg b1, e4, i1]
    · obtain ⟨g1, g2, g3⟩ := q_op_big w1 w2
      have e : q_enc q = 1998 + q.1 := by
        unfold q_enc
        rw [if_neg g2, if_neg g3]
      match st, hd with
      | v :: u :: st, hd =>
        have hd : d = st.length + 2 := hd
        obtain ⟨i1, i2⟩ := q_ev_map i l (d - 1) (q_by q.1 u v :: st) w4 (by rw [hd]; rfl)
        refine ⟨?_, Or.inr ⟨by rw [e]; exact g1, w3, i2⟩⟩
        show (if q_enc q < 2000 then _ else q_evc (l.map q_enc) i (q_done (q_enc q) u v :: st)) = (if q.1 = 0 then _ else if q.1 = 1 then _ else q_ev l i (q_by q.1 u v :: st))
        rw [e, if_neg g1, if_neg g2, if_neg g3, q_done_by w1 w2, i1]
      | [v], hd => exact absurd w3 (by have : d = 1 := hd; omega)
      | [], hd => exact absurd w3 (by have : d = 0 := hd; omega)
theorem q_code_ev {l : QL} (i : QR) (h : l = [] ∨ q_wf l 0) : (q_evc (q_code l) i []).headD 0 = q_lawv l i ∧ q_wfc (q_code l) 0 := by
  unfold q_code q_lawv
  by_cases e : l = []
  · rw [if_pos e, if_pos e]
    refine ⟨?_, ?_⟩
    · show q_done 2003 (i (1000 - 1000 : Int32).toNatClampNeg) 10 = _
      show (if (10 : Int32) = 0 then 0 else i 0 / 10) = _
      rw [if_neg (by decide)]
    · exact Or.inl ⟨by decide, Or.inr ⟨0, by omega, rfl⟩, by omega, Or.inl ⟨by decide, Or.inl (by decide), by omega, Or.inr ⟨by decide, by omega, rfl⟩⟩⟩
  · rw [if_neg e, if_neg e]
    obtain ⟨g1, g2⟩ := q_ev_map i l 0 [] (h.resolve_left e) rfl
    exact ⟨by rw [g1], g2⟩
theorem q_clamp (x : Int32) : q_max 0 (q_min 999 x) = q_min 999 (q_max 0 x) := by
  unfold q_max q_min
  by_cases h1 : x < 999
  · rw [if_pos h1]
    by_cases h2 : (0 : Int32) < x
    · rw [if_pos h2, if_pos h1]
    · rw [if_neg h2, if_pos (by decide)]
  · rw [if_neg h1, if_pos (by decide)]
    have h2 : (0 : Int32) < x := Int32.lt_of_lt_of_le (by decide) (Int32.not_lt.mp h1)
    rw [if_pos h2, if_neg h1]
/-- tolls: what the law says of these inputs -/
theorem qc_tolls {Z : AxS} {a N : Nat} {f : Nat → Nat → Int32} {l : QL} (hN : 200 < N) (h : LLa Z a) (hl : clLaw f a l) (hw : l = [] ∨ q_wf l 0) (v1 v2 v3 v4 v5 v6 v7 : Int32) (inp : QR) (hi : inp 0 = v1 ∧ inp 1 = v2 ∧ inp 2 = v3 ∧ inp 3 = v4 ∧ inp 4 = v5 ∧ inp 5 = v6 ∧ inp 6 = v7) :
    ∃ f', F_X4_tolls N a v1 v2 v3 v4 v5 v6 v7 (axM Z f) = some (q_toll l inp, axM Z f') ∧ ∀ x, x ≠ a + 2 → x ≠ a + 3 → f' x = f x := by
  have h' := h
  obtain ⟨h0, ⟨h1, h2⟩, ⟨h3, h4⟩, h5, h6⟩ := h'
  obtain ⟨i0, i1, i2, i3, i4, i5, i6⟩ := hi
  obtain ⟨l1, l2, l3⟩ := hl
  unfold F_X4_tolls
  have p0 := fun (g : Nat → Nat → Int32) (v : Int32) => m_putn (f := g) (v := v) N h4 (show 0 < 7 by omega) (by omega)
  have p1 := fun (g : Nat → Nat → Int32) (v : Int32) => m_putn (f := g) (v := v) N h4 (show 1 < 7 by omega) (by omega)
  have p2 := fun (g : Nat → Nat → Int32) (v : Int32) => m_putn (f := g) (v := v) N h4 (show 2 < 7 by omega) (by omega)
  have p3 := fun (g : Nat → Nat → Int32) (v : Int32) => m_putn (f := g) (v := v) N h4 (show 3 < 7 by omega) (by omega)
  have p4 := fun (g : Nat → Nat → Int32) (v : Int32) => m_putn (f := g) (v := v) N h4 (show 4 < 7 by omega) (by omega)
  have p5 := fun (g : Nat → Nat → Int32) (v : Int32) => m_putn (f := g) (v := v) N h4 (show 5 < 7 by omega) (by omega)
  have p6 := fun (g : Nat → Nat → Int32) (v : Int32) => m_putn (f := g) (v := v) N h4 (show 6 < 7 by omega) (by omega)
  rw [m_gr h0 h3]
  show ∃ f', axBV (F_X9_put N (a + 2) (Int32.ofNat 0) v1 (axM Z f)) _ = _ ∧ _
  rw [p0, axBV_s, m_gr h0 h3]
  show ∃ f', axBV (F_X9_put N (a + 2) (Int32.ofNat 1) v2 (axM Z _)) _ = _ ∧ _
  rw [p1, axBV_s, m_gr h0 h3]
  show ∃ f', axBV (F_X9_put N (a + 2) (Int32.ofNat 2) v3 (axM Z _)) _ = _ ∧ _
  rw [p2, axBV_s, m_gr h0 h3]
  show ∃ f', axBV (F_X9_put N (a + 2) (Int32.ofNat 3) v4 (axM Z _)) _ = _ ∧ _
  rw [p3, axBV_s, m_gr h0 h3]
  show ∃ f', axBV (F_X9_put N (a + 2) (Int32.ofNat 4) v5 (axM Z _)) _ = _ ∧ _
  rw [p4, axBV_s, m_gr h0 h3]
  show ∃ f', axBV (F_X9_put N (a + 2) (Int32.ofNat 5) v6 (axM Z _)) _ = _ ∧ _
  rw [p5, axBV_s, m_gr h0 h3]
  show ∃ f', axBV (F_X9_put N (a + 2) (Int32.ofNat 6) v7 (axM Z _)) _ = _ ∧ _
  rw [p6, axBV_s]
  obtain ⟨g1, g2⟩ := q_code_ev inp hw
  obtain ⟨f', e, fr⟩ := qc_tolls_l N h inp (q_code l) 0 N [] (ax2 (ax2 (ax2 (ax2 (ax2 (ax2 (ax2 f (a + 2) 0 v1) (a + 2) 1 v2) (a + 2) 2 v3) (a + 2) 3 v4) (a + 2) 4 v5) (a + 2) 5 v6) (a + 2) 6 v7) (by omega) (by omega) (by
      simp only [ax2_n _ _ _ _ (show a ≠ a + 2 by omega)]
      rw [l1]
      congr 1
      omega) (fun k x hx => by
      simp only [ax2_n _ _ _ _ (show a + 1 ≠ a + 2 by omega), Nat.zero_add]
      exact l3 k x hx) g2 (by show 0 ≤ 32; omega) (fun k hk => by
      have : k = 0 ∨ k = 1 ∨ k = 2 ∨ k = 3 ∨ k = 4 ∨ k = 5 ∨ k = 6 := by omega
      rcases this with rfl | rfl | rfl | rfl | rfl | rfl | rfl <;> simp [ax2_a, i0, i1, i2, i3, i4, i5, i6]) (fun k hk => absurd hk (by show ¬ k < 0; omega))
  refine ⟨f', ?_, fun x p q => by rw [fr x q]; simp only [ax2_n _ _ _ _ p]⟩
  rw [g1, q_clamp] at e
  exact e
/-- the class's strokes -/
theorem qc_strokesOf {Z : AxS} {b fa sf la sl bo sb a N : Nat} {f : Nat → Nat → Int32} {l : QL} (hN : 200 < N) (hC : LCl Z b fa sf la sl bo sb) (ha : LSt Z a) (hd : a + 2 < la ∨ la + 3 < a) (hl : clLaw f la l) (hw : l = [] ∨ q_wf l 0) (st : Int32) :
    ∃ f', F_X9_strokesOf N b a st (axM Z f) = some (q_str l (rdSt f a) st, axM Z f') ∧ ∀ x, x ≠ la + 2 → x ≠ la + 3 → f' x = f x := by
  have h0 := ha.1
  have hL := hC.2.1.2.2.1
  unfold F_X9_strokesOf
  simp only [m_gi h0, m_gr hC.1.1 hC.1.2.2.2.1, m_max, m_min, axB_s, m_is hL.1]
  obtain ⟨f', e, fr⟩ := qc_tolls hN hL hl hw (q_max 0 (f a 0 - f a 6)) (f a 4) (f a 2) (f a 3) (f a 5) st (f a 1) (q_inp (rdSt f a) st) ⟨rfl, rfl, rfl, rfl, rfl, rfl, rfl⟩
  rw [e, axB_s, m_gi h0, fr a (by omega) (by omega)]
  exact ⟨f', rfl, fr⟩
