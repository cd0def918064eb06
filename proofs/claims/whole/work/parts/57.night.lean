/-! a night: the class's and the model's -/
theorem qi_sub {i j : Nat} (h : j ≤ i) : Int32.ofNat i - Int32.ofNat j = Int32.ofNat (i - j) := by
  obtain ⟨d, rfl⟩ : ∃ d, i = d + j := ⟨i - j, by omega⟩
  rw [Int32.ofNat_add, Nat.add_sub_cancel, Int32.sub_eq_add_neg, Int32.add_assoc, Int32.add_right_neg, Int32.add_zero]
theorem qi_div {i j : Nat} (hi : i < 2147483648) (hj : j < 2147483648) : Int32.ofNat i / Int32.ofNat j = Int32.ofNat (i / j) := by
  have hne : Int32.ofNat j ≠ -1 := fun h => by
    have h9 := congrArg Int32.toInt h
    rw [qi_i hj] at h9
    have h8 : (-1 : Int32).toInt = -1 := by decide
    omega
  rw [← Int32.toInt_inj, Int32.toInt_div_of_ne_right _ _ hne, qi_i hi, qi_i hj, qi_i (Nat.lt_of_le_of_lt (Nat.div_le_self _ _) hi)]
  rfl
theorem qi_mod {n : Nat} (hn : n < 2147483648) : Int32.ofNat n - Int32.ofNat n / 12 * 12 = Int32.ofNat (n % 12) := by
  show Int32.ofNat n - Int32.ofNat n / Int32.ofNat 12 * Int32.ofNat 12 = _
  rw [qi_div hn (by omega), ← Int32.ofNat_mul, qi_sub (by omega)]
  congr 1
  omega
theorem q_mon_n {r : QR} {n : Nat} (h : r 2 = Int32.ofNat n) (hn : n < 2147483648) : q_mon r = Int32.ofNat (n % 12) := by
  unfold q_mon
  rw [h, qi_mod hn]
theorem q_fw_nm {ψ : QF} (h : q_fw ψ) : ∃ nm, ψ 0 5 = Int32.ofNat nm ∧ nm ≤ 8 ∧ (ψ 0 5).toNatClampNeg = nm := by
  obtain ⟨⟨nv, nc, nm, nh, e1, e2, e3, e4, b1, b2, b3, b4, -⟩, -⟩ := h
  exact ⟨nm, e3, by omega, by rw [e3, qi_tn (by omega)]⟩
theorem q_fw_far {ψ : QF} (h : q_fw ψ) {c : Nat} (hc : c < (ψ 0 5).toNatClampNeg) : c < (ψ 0 4).toNatClampNeg ∧ c < 8 ∧ ∃ x, x ≤ 9 ∧ ψ 3 c = Int32.ofNat x := by
  obtain ⟨⟨nv, nc, nm, nh, e1, e2, e3, e4, b1, b2, b3, b4, f1, f2, f3, f4⟩, -⟩ := h
  rw [e3, qi_tn (by omega)] at hc
  rw [e2, qi_tn (by omega)]
  exact ⟨by omega, by omega, f2 c (by omega)⟩
theorem q_far_pos {x : Nat} (h : x ≤ 9) : ¬ (1 + Int32.ofNat x ≤ 0) ∧ 1 + Int32.ofNat x ≠ 0 := by
  have e : 1 + Int32.ofNat x = Int32.ofNat (1 + x) := qi_add 1 x
  refine ⟨?_, ?_⟩
  · rw [e]
    show ¬ Int32.ofNat (1 + x) ≤ Int32.ofNat 0
    rw [qi_le (by omega) (by omega)]
    omega
  · rw [e]
    show ¬ Int32.ofNat (1 + x) = Int32.ofNat 0
    rw [qi_eq (by omega) (by omega)]
    omega
section
variable {Z : AxS} {f : Nat → Nat → Int32} {a : Nat}
/-- the class: a cell's noise -/
theorem qc_loud {fa c N : Nat} {s : Int32} {ψ : QF} (hfa : LFa Z fa) (hF : rdF f fa = ψ) (hc : c < (ψ 0 4).toNatClampNeg) (hc8 : c < 8) (hx : ∃ x, x ≤ 9 ∧ ψ 3 c = Int32.ofNat x) : F_X1_loud N fa (Int32.ofNat c) s (axM Z f) = some (s / (1 + ψ 3 c), axM Z f) := by
  obtain ⟨x, hx, e⟩ := hx
  obtain ⟨g1, g2⟩ := q_far_pos hx
  unfold F_X1_loud
  simp only [m_gr hfa.1 hfa.2.2.2.1.1, m_atn N hfa.2.2.2.1.2 hc8 (by omega), axB_s, rdF_3 hF hc]
  rw [e, if_neg g1, m_ne g2]
theorem qc_wakes {b fa sf la sl bo sb m N : Nat} {s : Int32} {ψ : QF} (hC : LCl Z b fa sf la sl bo sb) (ha : LSt Z a) (hF : rdF f fa = ψ) (hw : q_fw ψ) (hm : m < (ψ 0 5).toNatClampNeg) (hb : ∃ c, c < (ψ 0 5).toNatClampNeg ∧ rdSt f a (13 + m) = Int32.ofNat c) (h5 : rdSt f a 5 = 0 ∨ rdSt f a 5 = 1) :
    F_X9_wakes N b a (Int32.ofNat m) s (axM Z f) = some (if q_wk ψ (rdSt f a) s m = true then 1 else 0, axM Z f) := by
  obtain ⟨c, hc, e⟩ := hb
  obtain ⟨c1, c2, c3⟩ := q_fw_far hw hc
  obtain ⟨nm, n1, n2, n3⟩ := q_fw_nm hw
  have hm8 : m < 8 := by omega
  have hfa := hC.2.1.1
  have e' : f (a + 1) m = Int32.ofNat c := by rw [← rdSt_b f a hm8]; exact e
  unfold F_X9_wakes F_X9_wakes_34
  simp only [m_gr hC.1.1 hC.1.2.1, m_gr ha.1 ha.2.1, m_atn N ha.2.2.2.1 hm8 (by omega), axB_s, e', m_is hfa.1, qc_loud hfa hF c1 c2 c3, m_gi ha.1, m_gr hfa.1 hfa.2.2.2.2.1.1, m_atn N hfa.2.2.2.2.1.2 hm8 (by omega), rdF_4 hF hm, m_rz0, m_rz1, m_ne (show (2 : Int32) ≠ 0 by decide)]
  unfold q_wk q_noise
  rw [e, qi_tn (by omega)]
  rcases h5 with h | h
  · have h' : f a 5 = 0 := h
    rw [if_pos h', h, show (1 : Int32) + 0 = 1 by decide, Int32.div_one]
    by_cases q : s / (1 + ψ 3 c) ≤ ψ 4 m
    · rw [if_pos q, if_neg (fun z => Int32.not_lt.mpr q (of_decide_eq_true z))]
    · rw [if_neg q, if_pos (decide_eq_true (Int32.not_le.mp q))]
  · have h' : f a 5 = 1 := h
    rw [if_neg (by rw [h']; decide), h, show (1 : Int32) + 1 = 2 by decide]
    by_cases q : s / (1 + ψ 3 c) / 2 ≤ ψ 4 m
    · rw [if_pos q, if_neg (fun z => Int32.not_lt.mpr q (of_decide_eq_true z))]
    · rw [if_neg q, if_pos (decide_eq_true (Int32.not_le.mp q))]
theorem q_dn {n : Nat} (h1 : 1 ≤ n) (h7 : n ≤ 7) : Int32.ofNat n - 1 = Int32.ofNat (n - 1) ∧ q_max 0 (Int32.ofNat n - 1) = Int32.ofNat (n - 1) := by
  have e : Int32.ofNat n - 1 = Int32.ofNat (n - 1) := qi_m2 h1
  refine ⟨e, ?_⟩
  rw [e]
  unfold q_max
  by_cases h : (0 : Int32) < Int32.ofNat (n - 1)
  · rw [if_pos h]
  · rw [if_neg h]
    have h9 : ¬ Int32.ofNat 0 < Int32.ofNat (n - 1) := h
    rw [qi_lt (by omega) (by omega)] at h9
    rw [show n - 1 = 0 by omega]
    rfl
def q_rec (r : QR) : Prop := (r 6 = 0 ∧ r 7 = 0) ∨ (0 < r 6 ∧ ∃ n, n ≤ 7 ∧ 1 ≤ n ∧ r 7 = Int32.ofNat n)
theorem qc_takeDown (N : Nat) (h : LSt Z a) (hr : q_rec (rdSt f a)) : ∃ f', F_X5_takeDown N a (axM Z f) = some (axM Z f') ∧ rdSt f' a = q_set (q_set (q_set (rdSt f a) 8 (if rdSt f a 7 = 1 then rdSt f a 6 else 0)) 7 (q_max 0 (rdSt f a 7 - 1))) 6 (if q_max 0 (rdSt f a 7 - 1) = 0 then 0 else rdSt f a 6) ∧ ∀ x, x ≠ a → f' x = f x := by
  have h1 := h.1
  unfold F_X5_takeDown
  simp only [m_gi h1, m_pi h1, ax2_a, Nat.reduceEqDiff, ↓reduceIte]
  rcases hr with ⟨e6, e7⟩ | ⟨e6, n, n7, n1, e7⟩
  · have e6' : f a 6 = 0 := e6
    have t7 : q_max 0 ((0 : Int32) - 1) = 0 := by decide
    rw [if_pos e6']
    refine ⟨_, rfl, ?_, fun x hx => ax2_n _ _ _ _ hx⟩
    rw [rdSt_w8, e6, e7, t7, if_neg (by decide), if_pos rfl, q_set_c (q_set (rdSt f a) 8 0) 7 (by rw [q_set_n _ _ (by omega), e7]), q_set_c (q_set (rdSt f a) 8 0) 6 (by rw [q_set_n _ _ (by omega), e6])]
  · have e6' : f a 6 ≠ 0 := fun q => by
      have : (0 : Int32) < f a 6 := e6
      rw [q] at this
      exact absurd this (by decide)
    have e7' : f a 7 = Int32.ofNat n := e7
    obtain ⟨d1, d2⟩ := q_dn n1 n7
    rw [if_neg e6', e7', d1]
    by_cases c : n = 1
    · have z : Int32.ofNat (n - 1) = 0 := by rw [c]; rfl
      rw [if_neg (by rw [z]; decide)]
      refine ⟨_, rfl, ?_, fun x hx => by simp only [ax2_n _ _ _ _ hx]⟩
      rw [rdSt_w7, rdSt_w6, rdSt_w8, rdSt_w7, rdSt_w8, e7, d2, z, if_pos rfl, if_pos (by rw [c]; rfl)]
      funext k
      unfold q_set
      show _ = _
      by_cases k6 : k = 6
      · subst k6; rfl
      · by_cases k7 : k = 7
        · subst k7; rfl
        · by_cases k8 : k = 8
          · subst k8; rfl
          · simp only [if_neg k6, if_neg k7, if_neg k8]
    · have z : Int32.ofNat (n - 1) ≠ 0 := fun q => by
        have q : Int32.ofNat (n - 1) = Int32.ofNat 0 := q
        rw [qi_eq (by omega) (by omega)] at q
        omega
      have z2 : (0 : Int32) < Int32.ofNat (n - 1) := by
        show Int32.ofNat 0 < Int32.ofNat (n - 1)
        rw [qi_lt (by omega) (by omega)]
        omega
      rw [if_pos z2]
      refine ⟨_, rfl, ?_, fun x hx => by simp only [ax2_n _ _ _ _ hx]⟩
      have z3 : ¬ Int32.ofNat n = 1 := fun q => by
        have q : Int32.ofNat n = Int32.ofNat 1 := q
        rw [qi_eq (by omega) (by omega)] at q
        omega
      rw [rdSt_w7, rdSt_w8, e7, d2, if_neg z, if_neg z3, q_set_c (q_set (q_set (rdSt f a) 8 0) 7 (Int32.ofNat (n - 1))) 6 (by rw [q_set_n _ _ (by omega), q_set_n _ _ (by omega)])]
end
