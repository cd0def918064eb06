/-! the book: the model reads it -/
def mlR (g : Nat → Nat → Int32) (m : Nat) (β : QR) (nl : Nat) : Prop := nl ≤ 8 ∧ ∃ I : Nat → Nat, (∀ k, k < nl → I k < 60 ∧ g (m + 349 + k) 0 = Int32.ofNat (I k) ∧ g (m + 349 + k) 1 = β (I k) ∧ β (I k) ≠ -1) ∧ ∀ i, i < 60 → β i ≠ -1 → ∃ k, k < nl ∧ I k = i
def BFr (m : Nat) (g g' : Nat → Nat → Int32) : Prop := (∀ x, x ≠ m → ¬ (m + 349 ≤ x ∧ x ≤ m + 356) → g' x = g x) ∧ ∀ j, j ≠ 4 → j ≠ 5 → j ≠ 6 → g' m j = g m j
theorem BFr.rf (m : Nat) (g : Nat → Nat → Int32) : BFr m g g := ⟨fun _ _ _ => rfl, fun _ _ _ _ => rfl⟩
theorem BFr.tr {m : Nat} {f g h : Nat → Nat → Int32} (h1 : BFr m f g) (h2 : BFr m g h) : BFr m f h := ⟨fun x a b => by rw [h2.1 x a b, h1.1 x a b], fun j a b c => by rw [h2.2 j a b c, h1.2 j a b c]⟩
theorem MFr.bf {m : Nat} {f g : Nat → Nat → Int32} (h : MFr f g m) : BFr m f g := ⟨fun x a _ => h.1 x a, h.2⟩
theorem MFr.lr {m : Nat} {f g : Nat → Nat → Int32} (h : MFr f g m) {β : QR} {nl : Nat} (hL : mlR f m β nl) : mlR g m β nl := by
  obtain ⟨h1, I, h2, h3⟩ := hL
  exact ⟨h1, I, fun k hk => by rw [h.1 (m + 349 + k) (by omega)]; exact h2 k hk, h3⟩
section
variable {Z : AxS} {m N n s nl : Nat} {f g f0 g0 : Nat → Nat → Int32} {t β : QR} {pl : Int32}
theorem qm_numd (h0 : axL Z m = some (0, 10)) (lo hi : Int32) (h : g m 5 ≠ 0) : F_X10_number N m lo hi (axM Z g) = some (0, axM Z g) := by
  unfold F_X10_number
  rw [m_gi h0, if_neg h]
theorem qm_81d (h0 : axL Z m = some (0, 10)) (hnl : nl ≤ 8) (K46 : Nat → Int32 → AxS → Option (Int32 × AxS)) (v3 v4 : Int32) (h : g m 5 ≠ 0) : ∀ (c j fu : Nat), j + c = nl → c < fu → F_X10_book_81 N K46 fu m (Int32.ofNat nl) v3 v4 (Int32.ofNat j) (axM Z g) = F_X10_book_139 N K46 m (Int32.ofNat nl) v4 (axM Z g) := by
  intro c
  induction c with
  | zero =>
    intro j fu hj hfu
    obtain ⟨fu, rfl⟩ : ∃ q, fu = q + 1 := ⟨fu - 1, by omega⟩
    show F_X10_book_81b N K46 (F_X10_book_81 N K46 fu) m (Int32.ofNat nl) v3 v4 (Int32.ofNat j) (axM Z g) = _
    unfold F_X10_book_81b
    rw [if_pos (qi_ge (by omega) (by omega)), m_gi h0, if_neg h]
  | succ c ih =>
    intro j fu hj hfu
    obtain ⟨fu, rfl⟩ : ∃ q, fu = q + 1 := ⟨fu - 1, by omega⟩
    show F_X10_book_81b N K46 (F_X10_book_81 N K46 fu) m (Int32.ofNat nl) v3 v4 (Int32.ofNat j) (axM Z g) = _
    unfold F_X10_book_81b F_X10_book_114
    rw [if_neg (qi_nge (by omega) (by omega)), m_gi h0, if_neg h, qi_s]
    exact ih (j + 1) fu (by omega) (by omega)
theorem qm_81 (hm : LMo Z m) (hnl : nl ≤ 8) (K46 : Nat → Int32 → AxS → Option (Int32 × AxS)) {v : Nat} (hv : v < 60) (w : Int32) {I : Nat → Nat} (hI : ∀ k, k < nl → I k < 60 ∧ g (m + 349 + k) 0 = Int32.ofNat (I k)) (h : MT g m t n s 0 pl) : ∀ (c j fu : Nat), j + c = nl → c + 10 < fu → ((∃ k, j ≤ k ∧ k < nl ∧ I k = v) → ∃ g', F_X10_book_81 N K46 fu m (Int32.ofNat nl) w (Int32.ofNat v) (Int32.ofNat j) (axM Z g) = F_X10_book_139 N K46 m (Int32.ofNat nl) (Int32.ofNat v) (axM Z g') ∧ MT g' m t n s 2 w ∧ MFr g g' m) ∧ ((¬ ∃ k, j ≤ k ∧ k < nl ∧ I k = v) → (8 ≤ nl → ∃ g', F_X10_book_81 N K46 fu m (Int32.ofNat nl) w (Int32.ofNat v) (Int32.ofNat j) (axM Z g) = F_X10_book_139 N K46 m (Int32.ofNat nl) (Int32.ofNat v) (axM Z g') ∧ MT g' m t n s 3 w ∧ MFr g g' m) ∧ (nl < 8 → F_X10_book_81 N K46 fu m (Int32.ofNat nl) w (Int32.ofNat v) (Int32.ofNat j) (axM Z g) = F_X10_book_139 N K46 m (Int32.ofNat nl) (Int32.ofNat v) (axM Z g))) := by
  have h0 := hm.1
  have p22 : axP Z m 22 = some (m + 348) := hm.2.1 22 348 rfl
  have s22 : axL Z (m + 348) = some (3, 8) := hm.2.2.1 348 _ rfl
  intro c
  induction c with
  | zero =>
    intro j fu hj hfu
    obtain ⟨fu, rfl⟩ : ∃ q, fu = q + 1 := ⟨fu - 1, by omega⟩
    have e : F_X10_book_81 N K46 (fu + 1) m (Int32.ofNat nl) w (Int32.ofNat v) (Int32.ofNat j) (axM Z g) = if Int32.ofNat nl = 8 then (ax_is (axM Z g) m 10 <| axBV (F_X10_wrong N m 3 w (axM Z g)) fun T3 => F_X10_book_139 N K46 m (Int32.ofNat nl) (Int32.ofNat v) T3) else F_X10_book_139 N K46 m (Int32.ofNat nl) (Int32.ofNat v) (axM Z g) := by
      show F_X10_book_81b N K46 (F_X10_book_81 N K46 fu) m (Int32.ofNat nl) w (Int32.ofNat v) (Int32.ofNat j) (axM Z g) = _
      unfold F_X10_book_81b
      rw [if_pos (qi_ge (by omega) (by omega)), m_gi h0, h.2.2.1, if_pos rfl]
    rw [e]
    refine ⟨fun ⟨k, k1, k2, _⟩ => by omega, fun _ => ⟨fun c8 => ?_, fun c8 => ?_⟩⟩
    · obtain ⟨g1, e1, x1, fr1⟩ := qm_wrong (N := N) h0 h 3 w
      rw [if_pos rfl, if_pos rfl] at x1
      rw [if_pos (show Int32.ofNat nl = 8 by rw [show nl = 8 by omega]; rfl), m_is h0, e1, axBV_s]
      exact ⟨g1, rfl, x1, fr1⟩
    · rw [if_neg (show ¬ Int32.ofNat nl = 8 from qi_ne (j := 8) (by omega) (by omega) (by omega))]
  | succ c ih =>
    intro j fu hj hfu
    obtain ⟨fu, rfl⟩ : ∃ q, fu = q + 1 := ⟨fu - 1, by omega⟩
    obtain ⟨pr, sr⟩ : axP Z (m + 348) j = some (m + 349 + j) ∧ axL Z (m + 349 + j) = some (1, 2) := hm.2.2.2 348 8 2 rfl j (by omega)
    obtain ⟨i1, i2⟩ := hI j (by omega)
    have e : F_X10_book_81 N K46 (fu + 1) m (Int32.ofNat nl) w (Int32.ofNat v) (Int32.ofNat j) (axM Z g) = if Int32.ofNat (I j) = Int32.ofNat v then (ax_is (axM Z g) m 10 <| axBV (F_X10_wrong N m 2 w (axM Z g)) fun T10 => F_X10_book_81 N K46 fu m (Int32.ofNat nl) w (Int32.ofNat v) (Int32.ofNat (j + 1)) T10) else F_X10_book_81 N K46 fu m (Int32.ofNat nl) w (Int32.ofNat v) (Int32.ofNat (j + 1)) (axM Z g) := by
      show F_X10_book_81b N K46 (F_X10_book_81 N K46 fu) m (Int32.ofNat nl) w (Int32.ofNat v) (Int32.ofNat j) (axM Z g) = _
      unfold F_X10_book_81b F_X10_book_114
      rw [if_neg (qi_nge (by omega) (by omega)), m_gi h0, h.2.2.1, if_pos rfl, m_gr h0 p22, m_ldrn (t := 0) s22 (by omega) (show j < 8 by omega) (by omega) pr, m_ldk_0 sr (by omega), i2, qi_s]
    rw [e]
    by_cases ce : I j = v
    · rw [if_pos (show Int32.ofNat (I j) = Int32.ofNat v by rw [ce])]
      refine ⟨fun _ => ?_, fun q => absurd ⟨j, Nat.le_refl _, by omega, ce⟩ q⟩
      obtain ⟨g1, e1, x1, fr1⟩ := qm_wrong (N := N) h0 h 2 w
      rw [if_pos rfl, if_pos rfl] at x1
      rw [m_is h0, e1, axBV_s, qm_81d h0 hnl K46 w _ (by rw [x1.2.2.1]; decide) c (j + 1) fu (by omega) (by omega)]
      exact ⟨g1, rfl, x1, fr1⟩
    · rw [if_neg (qi_ne ce (by omega) (by omega))]
      have I2 := ih (j + 1) fu (by omega) (by omega)
      refine ⟨fun ⟨k, k1, k2, k3⟩ => I2.1 ⟨k, ?_, k2, k3⟩, fun q => I2.2 fun ⟨k, k1, k2, k3⟩ => q ⟨k, by omega, k2, k3⟩⟩
      rcases Nat.lt_or_ge j k with h9 | h9
      · omega
      · exact absurd (by rw [← k3, show k = j by omega]) ce
def QBm (Z : AxS) (m : Nat) (t : QR) (n : Nat) (pl : Int32) (N : Nat) (g : Nat → Nat → Int32) (r : Option (Int32 × AxS)) (o : QO3) : Prop := match o with
  | .inl z => ∃ g' q v, r = F_X10_book_192 N m v (axM Z g') ∧ MT g' m t n q z.1 z.2 ∧ z.1 ≠ 0 ∧ BFr m g g'
  | .inr z => ∃ g' q, r = F_X10_book_192 N m (Int32.ofNat z.2) (axM Z g') ∧ MT g' m t n q 0 pl ∧ mlR g' m z.1 z.2 ∧ BFr m g g'
theorem qm_lines (hN : 2000 < N) (hm : LMo Z m) : ∀ (k p nl fu : Nat) (β : QR) (g : Nat → Nat → Int32), n ≤ p + k → 11 < nl + fu → p ≤ n → MT g m t n (q_bl t n p) 0 pl → mlR g m β nl → BFr m g0 g → QBm Z m t n pl N g0 (F_X10_book_46 N fu m (Int32.ofNat nl) (axM Z g)) (q_lns t n k p β nl) := by
  have h0 := hm.1
  have p22 : axP Z m 22 = some (m + 348) := hm.2.1 22 348 rfl
  have s22 : axL Z (m + 348) = some (3, 8) := hm.2.2.1 348 _ rfl
  have stop : ∀ (p nl fu : Nat) (β : QR) (g : Nat → Nat → Int32), n ≤ q_bl t n p → 0 < fu → MT g m t n (q_bl t n p) 0 pl → mlR g m β nl → BFr m g0 g → QBm Z m t n pl N g0 (F_X10_book_46 N fu m (Int32.ofNat nl) (axM Z g)) (.inr (β, nl)) := by
    intro p nl fu β g hp hfu h hL hr
    obtain ⟨fu, rfl⟩ : ∃ q, fu = q + 1 := ⟨fu - 1, by omega⟩
    refine ⟨g, _, ?_, h, hL, hr⟩
    have h6 := h.2.2.2.2.2.1
    have h7 := h.2.2.2.2.2.2
    show F_X10_book_46b N (F_X10_book_46 N fu) m (Int32.ofNat nl) (axM Z g) = _
    unfold F_X10_book_46b
    rw [m_gi h0, h.2.2.1, if_pos rfl, m_gi h0, h.2.1, m_gi h0, h.1, if_pos (qi_ge hp (by omega))]
  intro k
  induction k with
  | zero =>
    intro p nl fu β g hp hfu hpn h hL hr
    have hnl := hL.1
    refine stop p nl fu β g ?_ (by omega) h hL hr
    have := (q_skp_b q_isB t hpn).1
    change p ≤ q_bl t n p at this
    omega
  | succ k ih =>
    intro p nl fu β g hp hfu hpn h hL hr
    have hnl := hL.1
    unfold q_lns
    by_cases c : n ≤ q_bl t n p
    · rw [if_pos c]
      exact stop p nl fu β g c (by omega) h hL hr
    rw [if_neg c]
    have hb := q_skp_b q_isB t hpn
    have hbl : p ≤ q_bl t n p := hb.1
    have hss : q_bl t n (q_bl t n p) = q_bl t n p := q_skp_i q_isB t hpn
    have h6 := h.2.2.2.2.2.1
    obtain ⟨fu, rfl⟩ : ∃ q, fu = q + 1 := ⟨fu - 1, by omega⟩
    have e46 : F_X10_book_46 N (fu + 1) m (Int32.ofNat nl) (axM Z g) = ax_is (axM Z g) m 10 (axB (F_X10_number N m 0 59 (axM Z g)) fun x7 T6 => F_X10_book_81 N (F_X10_book_46 N fu) N m (Int32.ofNat nl) (Int32.ofNat (q_bl t n p)) x7 0 T6) := by
      show F_X10_book_46b N (F_X10_book_46 N fu) m (Int32.ofNat nl) (axM Z g) = _
      unfold F_X10_book_46b
      rw [m_gi h0, h.2.2.1, if_pos rfl, m_gi h0, h.2.1, m_gi h0, h.1, if_neg (qi_nge (by omega) (by omega)), m_gi h0, h.2.1]
    -- behind a fault
    have bad : ∀ (g1 : Nat → Nat → Int32) (q : Nat) (z : Int32 × Int32) (v4 : Int32), MT g1 m t n q z.1 z.2 → z.1 ≠ 0 → BFr m g0 g1 → QBm Z m t n pl N g0 (F_X10_book_139 N (F_X10_book_46 N fu) m (Int32.ofNat nl) v4 (axM Z g1)) (.inl z) := by
      intro g1 q z v4 x1 hz r1
      have h5 : g1 m 5 ≠ 0 := by rw [x1.2.2.1]; exact hz
      obtain ⟨g2, e2, x2, fr2⟩ := qm_blanks hN hm x1
      obtain ⟨fu, rfl⟩ : ∃ q, fu = q + 1 := ⟨fu - 1, by omega⟩
      refine ⟨g2, _, Int32.ofNat nl, ?_, x2, hz, r1.tr fr2.bf⟩
      unfold F_X10_book_139 F_X10_book_185
      rw [m_is h0, qm_numd h0 _ _ h5, axB_s, m_is h0, qm_signd h0 _ h5, axBV_s, m_gi h0, if_neg h5, m_is h0, e2, axBV_s]
      show F_X10_book_46b N (F_X10_book_46 N fu) m (Int32.ofNat nl) (axM Z g2) = _
      unfold F_X10_book_46b
      rw [m_gi h0, x2.2.2.1, if_neg hz]
    have F := q_ln_f (t := t) (β := β) (nl := nl) hb.2.1
    change (∀ z, q_ln t n (q_bl t n p) β nl = .inl z → z.1 ≠ 0) ∧ ∀ z, q_ln t n (q_bl t n p) β nl = .inr z → q_bl t n p < z.2 ∧ z.2 ≤ n ∧ nl < 8 at F
    have r := qm_number hN hm h 0 59
    rw [e46, m_is h0]
    unfold q_ln at F ⊢
    by_cases c1 : q_nok t n (q_bl t n p) 0 59
    · rw [if_pos (q_nb_t c1)] at F ⊢
      obtain ⟨g1, e1, x1, fr1⟩ := r.1 ⟨rfl, c1⟩
      have hv := (q_nok_b (lo := 0) (hi := 59) c1 (by omega) (by omega)).2
      have L1 := fr1.lr hL
      have L1' := L1
      obtain ⟨-, I, I1, I2⟩ := L1
      rw [e1, axB_s]
      have S := qm_81 (N := N) hm hnl (F_X10_book_46 N fu) (v := q_num t n (q_bl t n (q_bl t n p))) (by omega) (Int32.ofNat (q_bl t n p)) (fun k hk => ⟨(I1 k hk).1, (I1 k hk).2.1⟩) x1 nl 0 N (by omega) (by omega)
      change (_ → ∃ g', F_X10_book_81 N (F_X10_book_46 N fu) N m (Int32.ofNat nl) (Int32.ofNat (q_bl t n p)) (Int32.ofNat (q_num t n (q_bl t n (q_bl t n p)))) 0 (axM Z g1) = _ ∧ _) ∧ (_ → (_ → ∃ g', F_X10_book_81 N (F_X10_book_46 N fu) N m (Int32.ofNat nl) (Int32.ofNat (q_bl t n p)) (Int32.ofNat (q_num t n (q_bl t n (q_bl t n p)))) 0 (axM Z g1) = _ ∧ _) ∧ (_ → F_X10_book_81 N (F_X10_book_46 N fu) N m (Int32.ofNat nl) (Int32.ofNat (q_bl t n p)) (Int32.ofNat (q_num t n (q_bl t n (q_bl t n p)))) 0 (axM Z g1) = _)) at S
      by_cases c2 : β (q_num t n (q_bl t n (q_bl t n p))) = -1
      · have nex : ¬ ∃ k, 0 ≤ k ∧ k < nl ∧ I k = q_num t n (q_bl t n (q_bl t n p)) := fun ⟨k, _, k2, k3⟩ => (I1 k k2).2.2.2 (by rw [k3]; exact c2)
        rw [if_pos c2] at F ⊢
        by_cases c3 : 8 ≤ nl
        · obtain ⟨g2, e2, x2, fr2⟩ := (S.2 nex).1 c3
          rw [if_pos c3, e2, q_bd_l rfl, hss]
          exact bad _ _ (3, Int32.ofNat (q_bl t n p)) _ x2 (show ¬ (3 : Int32) = 0 by decide) ((hr.tr fr1.bf).tr fr2.bf)
        rw [if_neg c3] at F ⊢
        rw [(S.2 nex).2 (by omega)]
        have r2 := qm_number hN hm x1 0 999
        by_cases c4 : q_nok t n (q_dgt t n (q_bl t n (q_bl t n p))) 0 999
        · rw [if_pos (q_nb_t c4)] at F ⊢
          obtain ⟨g2, e2, x2, fr2⟩ := r2.1 ⟨rfl, c4⟩
          have hw := q_num_le t n (q_bl t n (q_dgt t n (q_bl t n (q_bl t n p))))
          have T := qm_tkn hN hm x2 (c := 59) (by decide)
          have f2 := fr1.tr fr2
          unfold F_X10_book_139
          rw [m_is h0, e2, axB_s, m_is h0]
          rcases e3 : q_tk t n 59 (q_dgt t n (q_bl t n (q_dgt t n (q_bl t n (q_bl t n p))))) with z | p3
          · rw [e3] at F
            obtain ⟨g3, q, y3, x3, fr3⟩ := T.1 z e3
            have hz := F.1 z rfl
            obtain ⟨g4, e4, x4, fr4⟩ := qm_blanks hN hm x3
            obtain ⟨fu, rfl⟩ : ∃ q, fu = q + 1 := ⟨fu - 1, by omega⟩
            unfold F_X10_book_185
            rw [q_bd_l rfl, q_bd_l rfl, y3, axBV_s, m_gi h0, x3.2.2.1, if_neg hz, m_is h0, e4, axBV_s]
            refine ⟨g4, _, Int32.ofNat nl, ?_, x4, hz, hr.tr ((f2.tr fr3).tr fr4).bf⟩
            show F_X10_book_46b N (F_X10_book_46 N fu) m (Int32.ofNat nl) (axM Z g4) = _
            unfold F_X10_book_46b
            rw [m_gi h0, x4.2.2.1, if_neg hz]
          · rw [e3] at F
            obtain ⟨g3, y3, x3, fr3⟩ := T.2 p3 e3
            obtain ⟨a1, a2, a3⟩ := F.2 _ rfl
            change q_bl t n p < p3 at a1
            change p3 ≤ n at a2
            obtain ⟨pr, sr⟩ : axP Z (m + 348) nl = some (m + 349 + nl) ∧ axL Z (m + 349 + nl) = some (1, 2) := hm.2.2.2 348 8 2 rfl nl a3
            have x4 : MT (ax2 (ax2 g3 (m + 349 + nl) 0 (Int32.ofNat (q_num t n (q_bl t n (q_bl t n p))))) (m + 349 + nl) 1 (Int32.ofNat (q_num t n (q_bl t n (q_dgt t n (q_bl t n (q_bl t n p))))))) m t n p3 0 pl := (x3.n (by omega) (by omega)).n (by omega) (by omega)
            obtain ⟨g5, e5, x5, fr5⟩ := qm_blanks hN hm x4
            have L3 := (f2.tr fr3).lr hL
            have L4 : mlR (ax2 (ax2 g3 (m + 349 + nl) 0 (Int32.ofNat (q_num t n (q_bl t n (q_bl t n p))))) (m + 349 + nl) 1 (Int32.ofNat (q_num t n (q_bl t n (q_dgt t n (q_bl t n (q_bl t n p))))))) m (q_set β (q_num t n (q_bl t n (q_bl t n p))) (Int32.ofNat (q_num t n (q_bl t n (q_dgt t n (q_bl t n (q_bl t n p))))))) (nl + 1) := by
              obtain ⟨-, J, J1, J2⟩ := L3
              have hset : ∀ i, q_set β (q_num t n (q_bl t n (q_bl t n p))) (Int32.ofNat (q_num t n (q_bl t n (q_dgt t n (q_bl t n (q_bl t n p)))))) i = if i = q_num t n (q_bl t n (q_bl t n p)) then Int32.ofNat (q_num t n (q_bl t n (q_dgt t n (q_bl t n (q_bl t n p))))) else β i := fun i => rfl
              refine ⟨by omega, fun k => if k = nl then q_num t n (q_bl t n (q_bl t n p)) else J k, fun k hk => ?_, fun i hi hne => ?_⟩
              · by_cases ck : k = nl
                · simp only [if_pos ck]
                  rw [ck, hset, if_pos rfl]
                  exact ⟨by omega, by rw [ax2_j _ _ _ _ _ (by omega), ax2_k], ax2_k _ _ _ _, q_nm1 (by omega)⟩
                · simp only [if_neg ck]
                  obtain ⟨j1, j2, j3, j4⟩ := J1 k (by omega)
                  have jn : J k ≠ q_num t n (q_bl t n (q_bl t n p)) := fun q => j4 (by rw [q]; exact c2)
                  rw [hset, if_neg jn, ax2_n _ _ _ _ (by omega), ax2_n _ _ _ _ (by omega)]
                  exact ⟨j1, j2, j3, j4⟩
              · rw [hset] at hne
                by_cases ci : i = q_num t n (q_bl t n (q_bl t n p))
                · exact ⟨nl, by omega, by simp only [if_pos trivial]; exact ci.symm⟩
                · rw [if_neg ci] at hne
                  obtain ⟨k, k1, k2⟩ := J2 i hi hne
                  exact ⟨k, by omega, Eq.trans (if_neg (show ¬ k = nl by omega)) k2⟩
            unfold F_X10_book_185
            rw [q_bd_r rfl, q_bd_r rfl, y3, axBV_s, m_gi h0, x3.2.2.1, if_pos rfl, m_gr h0 p22, m_ldrn (t := 0) s22 (by omega) a3 (by omega) pr, m_stk_0 sr (by omega), m_gr h0 p22, m_ldrn (t := 0) s22 (by omega) a3 (by omega) pr, m_stk_1 sr (by omega), m_is h0, e5, axBV_s, qi_s]
            exact ih p3 (nl + 1) fu _ g5 (by omega) (by omega) a2 x5 (fr5.lr L4) ((hr.tr (f2.tr fr3).bf).tr (BFr.tr ⟨fun x a c => by rw [ax2_n _ _ _ _ (by omega), ax2_n _ _ _ _ (by omega)], fun j _ _ _ => by rw [ax2_n _ _ _ _ (by omega), ax2_n _ _ _ _ (by omega)]⟩ fr5.bf))
        · obtain ⟨g2, q, e2, x2, fr2⟩ := r2.2 fun z => c4 z.2
          rw [if_pos rfl, if_pos rfl] at x2
          have hz := q_nfk_z t n (q_dgt t n (q_bl t n (q_bl t n p)))
          have h5 : g2 m 5 ≠ 0 := by rw [x2.2.2.1]; exact hz
          obtain ⟨g4, e4, x4, fr4⟩ := qm_blanks hN hm x2
          obtain ⟨fu, rfl⟩ : ∃ q, fu = q + 1 := ⟨fu - 1, by omega⟩
          unfold F_X10_book_139 F_X10_book_185
          rw [if_neg (q_nb_f c4), q_bd_l rfl, m_is h0, e2, axB_s, m_is h0, qm_signd h0 _ h5, axBV_s, m_gi h0, if_neg h5, m_is h0, e4, axBV_s]
          refine ⟨g4, _, Int32.ofNat nl, ?_, x4, hz, hr.tr ((fr1.tr fr2).tr fr4).bf⟩
          show F_X10_book_46b N (F_X10_book_46 N fu) m (Int32.ofNat nl) (axM Z g4) = _
          unfold F_X10_book_46b
          rw [m_gi h0, x4.2.2.1, if_neg hz]
      · rw [if_neg c2] at F ⊢
        obtain ⟨k, k1, k2⟩ := I2 _ (by omega) c2
        obtain ⟨g2, e2, x2, fr2⟩ := S.1 ⟨k, Nat.zero_le _, k1, k2⟩
        rw [e2, q_bd_l rfl, hss]
        exact bad _ _ (2, Int32.ofNat (q_bl t n p)) _ x2 (show ¬ (2 : Int32) = 0 by decide) ((hr.tr fr1.bf).tr fr2.bf)
    · obtain ⟨g1, q, e1, x1, fr1⟩ := r.2 fun z => c1 z.2
      rw [if_pos rfl, if_pos rfl] at x1
      have hz := q_nfk_z t n (q_bl t n p)
      rw [if_neg (q_nb_f c1), q_bd_l rfl, e1, axB_s, show F_X10_book_81 N (F_X10_book_46 N fu) N m (Int32.ofNat nl) (Int32.ofNat (q_bl t n p)) 0 0 (axM Z g1) = _ from qm_81d h0 hnl _ _ _ (by rw [x1.2.2.1]; exact hz) nl 0 N (by omega) (by omega)]
      exact bad _ _ (q_nfk t n (q_bl t n p), Int32.ofNat (q_bl t n (q_bl t n p))) _ x1 hz (hr.tr fr1.bf)
end
