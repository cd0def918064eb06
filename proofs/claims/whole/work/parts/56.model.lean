/-! the model: a law evaluated, strokes, who wakes, a night -/
theorem qi_d1 (x : Int32) : x / 1 = x := Int32.div_one
theorem qi_neg1 (u : Int32) : u / (-1) = -u := by
  rw [← Int32.toInt_inj, Int32.toInt_div, Int32.toInt_neg]
  simp
theorem m_by (N : Nat) (h u v : Int32) (S : AxS) : F_X10_by N h u v S = some (q_by h u v, S) := by
  unfold F_X10_by q_by
  simp only [m_less, m_more, axB_s]
  by_cases h0 : v = 0
  · simp only [if_pos h0]
    repeat' split
    all_goals rfl
  · simp only [if_neg h0, m_ne h0]
    by_cases h1 : v = -1
    · have e1 : u / v = -u := by rw [h1]; exact qi_neg1 u
      have e2 : u - u / v * v = 0 := by
        rw [e1, h1, Int32.neg_mul_neg, Int32.mul_one, Int32.sub_self]
      simp only [if_pos h1, e1, e2]
      rw [e1] at e2
      simp only [e2]
      repeat' split
      all_goals rfl
    · simp only [if_neg h1]
      repeat' split
      all_goals rfl
section
variable {Z : AxS} {m : Nat}
theorem qm_byLaw_l (N : Nat) (hm : LMo Z m) (inp : QR) : ∀ (l : QL) (i fu : Nat) (st : List Int32) (f : Nat → Nat → Int32), l.length < fu → i + l.length ≤ 150 → f m 17 = Int32.ofNat (i + l.length) → (∀ k q, l[k]? = some q → f (m + 18 + (i + k)) 0 = q.1 ∧ f (m + 18 + (i + k)) 1 = q.2) → q_wf l st.length → st.length ≤ 32 → (∀ k, k < 7 → f (m + 358) k = inp k) → (∀ k, k < st.length → f (m + 357) k = st.getD (st.length - 1 - k) 0) →
    ∃ f', F_X10_byLaw_19 N fu m (Int32.ofNat st.length) (Int32.ofNat i) (axM Z f) = some (q_min 999 (q_max 0 ((q_ev l inp st).headD 0)), axM Z f') ∧ ∀ x, x ≠ m + 357 → f' x = f x := by
  have h0 := hm.1
  have p19 : axP Z m 19 = some (m + 17) := hm.2.1 19 17 rfl
  have p23 : axP Z m 23 = some (m + 357) := hm.2.1 23 357 rfl
  have p24 : axP Z m 24 = some (m + 358) := hm.2.1 24 358 rfl
  have s17 : axL Z (m + 17) = some (0 + 3, 160) := hm.2.2.1 17 _ rfl
  have s357 : axL Z (m + 357) = some (1, 160) := hm.2.2.1 357 _ rfl
  have s358 : axL Z (m + 358) = some (1, 7) := hm.2.2.1 358 _ rfl
  have R : ∀ j, j < 160 → axP Z (m + 17) j = some (m + 18 + j) ∧ axL Z (m + 18 + j) = some (1, 2) := fun j hj => hm.2.2.2 17 160 2 rfl j hj
  intro l
  induction l with
  | nil =>
    intro i fu st f hfu hi hlen hcode hwf hst hinp hstk
    obtain ⟨fu, rfl⟩ : ∃ q, fu = q + 1 := ⟨fu - 1, by omega⟩
    show ∃ f', F_X10_byLaw_19b N (F_X10_byLaw_19 N fu) m (Int32.ofNat st.length) (Int32.ofNat i) (axM Z f) = _ ∧ _
    unfold F_X10_byLaw_19b
    rw [m_gi h0, hlen, if_pos (show Int32.ofNat (i + ([] : QL).length) ≤ Int32.ofNat i from Int32.le_refl _)]
    have hw : st.length = 1 := hwf
    have e0 : f (m + 357) 0 = st.headD 0 := by
      rw [hstk 0 (by omega), hw]
      cases st <;> rfl
    simp only [m_gr h0 p23, m_ldk_0 s357 (show 0 < 160 by omega), axB_s, m_less, m_more, e0]
    exact ⟨f, rfl, fun x _ => rfl⟩
  | cons c l ih =>
    intro i fu st f hfu hi hlen hcode hwf hst hinp hstk
    have hll : (c :: l).length = l.length + 1 := rfl
    rw [hll] at hfu hi hlen
    obtain ⟨fu, rfl⟩ : ∃ q, fu = q + 1 := ⟨fu - 1, by omega⟩
    show ∃ f', F_X10_byLaw_19b N (F_X10_byLaw_19 N fu) m (Int32.ofNat st.length) (Int32.ofNat i) (axM Z f) = _ ∧ _
    unfold F_X10_byLaw_19b
    obtain ⟨ec0, ec1⟩ : f (m + 18 + i) 0 = c.1 ∧ f (m + 18 + i) 1 = c.2 := hcode 0 c rfl
    have hcode' : ∀ k q, l[k]? = some q → f (m + 18 + (i + 1 + k)) 0 = q.1 ∧ f (m + 18 + (i + 1 + k)) 1 = q.2 := fun k q hq => by
      rw [show i + 1 + k = i + (k + 1) by omega]
      exact hcode (k + 1) q hq
    obtain ⟨r1, r2⟩ := R i (by omega)
    simp only [m_gi h0, m_gr h0 p19, m_gr h0 p23, m_gr h0 p24, m_ldrn s17 (by omega) (show i < 160 by omega) (by omega) r1, m_ldk_0 r2 (show 0 < 2 by omega), m_ldk_1 r2 (show 1 < 2 by omega), ec0, ec1]
    rw [hlen, if_neg (show ¬ Int32.ofNat (i + (l.length + 1)) ≤ Int32.ofNat i by rw [qi_le (by omega) (by omega)]; omega)]
    have key : ∀ v : Int32, q_wf l (st.length + 1) → st.length + 1 ≤ 32 → ∃ f', F_X10_byLaw_79 N (F_X10_byLaw_19 N fu) m (Int32.ofNat st.length) (Int32.ofNat i) v (Int32.ofNat st.length) (m + 357) (axM Z f) = some (q_min 999 (q_max 0 ((q_ev l inp (v :: st)).headD 0)), axM Z f') ∧ ∀ x, x ≠ m + 357 → f' x = f x := by
      intro v w4 w3
      unfold F_X10_byLaw_79 F_X10_byLaw_122
      simp only [m_stn s357 (show st.length < 160 by omega) (by omega), qi_s]
      obtain ⟨f', e, fr⟩ := ih (i + 1) fu (v :: st) (ax2 f (m + 357) st.length v) (by omega) (by omega) (by rw [ax2_n _ _ _ _ (by omega), hlen]; congr 1; omega) (fun k q hq => by rw [ax2_n _ _ _ _ (by have := (List.getElem?_eq_some_iff.mp hq).1; omega)]; exact hcode' k q hq) w4 w3 (fun k hk => by rw [ax2_n _ _ _ _ (by omega)]; exact hinp k hk) (fun k hk => by
        have hk : k < st.length + 1 := hk
        rw [ax2_a]
        show _ = (v :: st).getD (st.length + 1 - 1 - k) 0
        by_cases e : k = st.length
        · rw [if_pos e, e, show st.length + 1 - 1 - st.length = 0 by omega]
          rfl
        · rw [if_neg e, hstk k (by omega), show st.length + 1 - 1 - k = (st.length - 1 - k) + 1 by omega]
          rfl)
      exact ⟨f', e, fun x hx => by rw [fr x hx, ax2_n _ _ _ _ hx]⟩
    rcases hwf with ⟨w1, -, w3, w4⟩ | ⟨w1, ⟨w2, w5⟩, w3, w4⟩ | ⟨⟨w1, w5⟩, w2, w3⟩
    · have e9 : q_ev (c :: l) inp st = q_ev l inp (c.2 :: st) := if_pos w1
      rw [e9, w1, if_neg (by decide), if_pos rfl]
      exact key c.2 w4 w3
    · have n0 : c.1 ≠ 0 := by rw [w1]; decide
      have e9 : q_ev (c :: l) inp st = q_ev l inp (inp c.2.toNatClampNeg :: st) := by
        show (if c.1 = 0 then _ else if c.1 = 1 then _ else _) = _
        rw [if_neg n0, if_pos w1]
      obtain ⟨n, hn, e2⟩ := q_nn w2 (show c.2 ≤ Int32.ofNat 6 from w5) (by omega)
      rw [e9, w1, if_neg (by decide), if_neg (by decide), e2, m_ldn s358 (show n < 7 by omega) (by omega), hinp n (by omega), qi_tn (by omega)]
      exact key (inp n) w4 w3
    · obtain ⟨-, n0, n1⟩ := q_op_big w1 w5
      rw [if_pos w1]
      match st, w2, w3, hst, hstk with
      | v :: u :: st, w2, w3, hst, hstk =>
        have hle : (v :: u :: st).length = st.length + 2 := rfl
        rw [hle] at w3 hst hstk ⊢
        have e9 : q_ev (c :: l) inp (v :: u :: st) = q_ev l inp (q_by c.1 u v :: st) := by
          show (if c.1 = 0 then _ else if c.1 = 1 then _ else _) = _
          rw [if_neg n0, if_neg n1]
        rw [e9]
        have p1 : Int32.ofNat (st.length + 2) + (-1) = Int32.ofNat (st.length + 1) := qi_m1 (by omega)
        have p2 : Int32.ofNat (st.length + 1) - 1 = Int32.ofNat st.length := qi_m2 (by omega)
        have su : f (m + 357) st.length = u := by
          rw [hstk _ (by omega), show st.length + 2 - 1 - st.length = 1 by omega]
          rfl
        have sv : f (m + 357) (st.length + 1) = v := by
          rw [hstk _ (by omega), show st.length + 2 - 1 - (st.length + 1) = 0 by omega]
          rfl
        simp only [p1, p2, m_gr h0 p23, m_ldrn s17 (by omega) (show i < 160 by omega) (by omega) r1, m_ldk_0 r2 (show 0 < 2 by omega), m_ldk_1 r2 (show 1 < 2 by omega), ec0, ec1, m_ldn s357 (show st.length < 160 by omega) (by omega), m_ldn s357 (show st.length + 1 < 160 by omega) (by omega), m_stn s357 (show st.length < 160 by omega) (by omega), axB_s, m_by, su, sv, F_X10_byLaw_122, qi_s]
        obtain ⟨f', e, fr⟩ := ih (i + 1) fu (q_by c.1 u v :: st) (ax2 f (m + 357) st.length (q_by c.1 u v)) (by omega) (by omega) (by rw [ax2_n _ _ _ _ (by omega), hlen]; congr 1; omega) (fun k q hq => by rw [ax2_n _ _ _ _ (by have := (List.getElem?_eq_some_iff.mp hq).1; omega)]; exact hcode' k q hq) w3 (by show st.length + 1 ≤ 32; omega) (fun k hk => by rw [ax2_n _ _ _ _ (by omega)]; exact hinp k hk) (fun k hk => by
          have hk : k < st.length + 1 := hk
          rw [ax2_a]
          show _ = (q_by c.1 u v :: st).getD (st.length + 1 - 1 - k) 0
          by_cases e : k = st.length
          · rw [if_pos e, e, show st.length + 1 - 1 - st.length = 0 by omega]
            rfl
          · rw [if_neg e, hstk k (by omega), show st.length + 1 - 1 - k = (st.length - 1 - k) + 1 by omega, show st.length + 2 - 1 - k = (st.length - 1 - k) + 1 + 1 by omega]
            rfl)
        exact ⟨f', e, fun x hx => by rw [fr x hx, ax2_n _ _ _ _ hx]⟩
/-- what the model's law says of what is known -/
theorem qm_byLaw {N : Nat} {f : Nat → Nat → Int32} {l : QL} (hN : 200 < N) (hm : LMo Z m) (hl : mlLaw f m l) (hw : l = [] ∨ q_wf l 0) (inp : QR) (hi : ∀ k, k < 7 → f (m + 358) k = inp k) :
    ∃ f', F_X10_byLaw N m (axM Z f) = some (q_toll l inp, axM Z f') ∧ ∀ x, x ≠ m + 357 → f' x = f x := by
  have h0 := hm.1
  have p23 : axP Z m 23 = some (m + 357) := hm.2.1 23 357 rfl
  have p24 : axP Z m 24 = some (m + 358) := hm.2.1 24 358 rfl
  have s357 : axL Z (m + 357) = some (1, 160) := hm.2.2.1 357 _ rfl
  have s358 : axL Z (m + 358) = some (1, 7) := hm.2.2.1 358 _ rfl
  obtain ⟨l1, l2, l3⟩ := hl
  unfold F_X10_byLaw
  simp only [m_gr h0 p23, m_gr h0 p24, m_ld7_0 s358, m_ne (show (10 : Int32) ≠ 0 by decide), m_stk_0 s357 (show 0 < 160 by omega), hi 0 (by omega)]
  unfold q_toll q_lawv
  rcases hw with e | w
  · subst e
    rw [if_pos rfl]
    obtain ⟨N, rfl⟩ : ∃ q, N = q + 1 := ⟨N - 1, by omega⟩
    show ∃ f', F_X10_byLaw_19b (N + 1) (F_X10_byLaw_19 (N + 1) N) m 0 0 (axM Z _) = _ ∧ _
    unfold F_X10_byLaw_19b
    have e1 : ax2 f (m + 357) 0 (inp 0 / 10) m 17 = 0 := by
      rw [ax2_n _ _ _ _ (by omega)]
      exact l1
    rw [m_gi h0, e1, if_pos (Int32.le_refl _)]
    simp only [m_gr h0 p23, m_ldk_0 s357 (show 0 < 160 by omega), axB_s, m_less, m_more, ax2_k]
    exact ⟨_, rfl, fun x hx => by rw [ax2_n _ _ _ _ hx]⟩
  · by_cases e : l = []
    · subst e
      exact absurd w (by show ¬ (0 : Nat) = 1; omega)
    · rw [if_neg e]
      obtain ⟨f', e2, fr⟩ := qm_byLaw_l N hm inp l 0 N [] (ax2 f (m + 357) 0 (inp 0 / 10)) (by omega) (by omega) (by rw [ax2_n _ _ _ _ (by omega), l1, Nat.zero_add]) (fun k q hq => by
        have := (List.getElem?_eq_some_iff.mp hq).1
        rw [ax2_n _ _ _ _ (by omega), Nat.zero_add]
        exact l3 k q hq) w (by show 0 ≤ 32; omega) (fun k hk => by rw [ax2_n _ _ _ _ (by omega)]; exact hi k hk) (fun k hk => absurd hk (by show ¬ k < 0; omega))
      exact ⟨f', e2, fun x hx => by rw [fr x hx, ax2_n _ _ _ _ hx]⟩
theorem qm_asksOf (N : Nat) {f : Nat → Nat → Int32} {a : Nat} (h : axL Z a = some (1, 29)) : F_X10_asksOf N a (axM Z f) = some (q_max 0 (f a 0 - f a 6), axM Z f) := by
  unfold F_X10_asksOf
  simp only [m_ld29_0 h, m_ld29_6 h, m_more, axB_s]
/-- the model's strokes of a row -/
theorem qm_strokesOf {N : Nat} {f : Nat → Nat → Int32} {l : QL} {a : Nat} (hN : 200 < N) (hm : LMo Z m) (ha : axL Z a = some (1, 29)) (hd : a ≠ m + 357 ∧ a ≠ m + 358) (hl : mlLaw f m l) (hw : l = [] ∨ q_wf l 0) :
    ∃ f', F_X10_strokesOf N m a (axM Z f) = some (q_str l (rdM f a) (rdM f a 12), axM Z f') ∧ ∀ x, x ≠ m + 357 → x ≠ m + 358 → f' x = f x := by
  have h0 := hm.1
  have p24 : axP Z m 24 = some (m + 358) := hm.2.1 24 358 rfl
  have s358 : axL Z (m + 358) = some (1, 7) := hm.2.2.1 358 _ rfl
  unfold F_X10_strokesOf
  simp only [m_gr h0 p24, qm_asksOf N ha, axB_s, m_ld29_4 ha, m_ld29_2 ha, m_ld29_3 ha, m_ld29_5 ha, m_ld29_12 ha, m_ld29_1 ha, m_ld29_8 ha, m_st7_0 s358, m_st7_1 s358, m_st7_2 s358, m_st7_3 s358, m_st7_4 s358, m_st7_5 s358, m_st7_6 s358, ax2_n _ _ _ _ hd.2, m_is h0, m_less]
  obtain ⟨f', e, fr⟩ := qm_byLaw (f := ax2 (ax2 (ax2 (ax2 (ax2 (ax2 (ax2 f (m + 358) 0 (q_max 0 (f a 0 - f a 6))) (m + 358) 1 (f a 4)) (m + 358) 2 (f a 2)) (m + 358) 3 (f a 3)) (m + 358) 4 (f a 5)) (m + 358) 5 (f a 12)) (m + 358) 6 (f a 1)) hN hm (l := l) (by
    obtain ⟨l1, l2, l3⟩ := hl
    refine ⟨by simp only [ax2_n _ _ _ _ (show m ≠ m + 358 by omega)]; exact l1, l2, fun k q hq => ?_⟩
    have := (List.getElem?_eq_some_iff.mp hq).1
    simp only [ax2_n _ _ _ _ (show m + 18 + k ≠ m + 358 by omega)]
    exact l3 k q hq) hw (q_inp (rdM f a) (rdM f a 12)) (fun k hk => by
    have : k = 0 ∨ k = 1 ∨ k = 2 ∨ k = 3 ∨ k = 4 ∨ k = 5 ∨ k = 6 := by omega
    rcases this with rfl | rfl | rfl | rfl | rfl | rfl | rfl <;> simp [ax2_a, q_inp, q_asks, rdM])
  rw [e, axB_s, m_ld29_8 ha, fr a hd.1]
  refine ⟨f', ?_, fun x p q => by rw [fr x p]; simp only [ax2_n _ _ _ _ q]⟩
  simp only [ax2_n _ _ _ _ hd.2]
  rfl
end
