/-! plan -/
theorem q_and3 (x : Int32) : ∃ j, j ≤ 3 ∧ x &&& 3 = Int32.ofNat j := by
  refine ⟨x.toBitVec.toNat &&& 3, Nat.and_le_right, ?_⟩
  have h3 : x.toBitVec.toNat &&& 3 ≤ 3 := Nat.and_le_right
  rw [← Int32.toBitVec_inj]
  show x.toBitVec &&& 3#32 = BitVec.ofNat 32 (x.toBitVec.toNat &&& 3)
  apply BitVec.eq_of_toNat_eq
  rw [BitVec.toNat_and, BitVec.toNat_ofNat, BitVec.toNat_ofNat, Nat.mod_eq_of_lt (show x.toBitVec.toNat &&& 3 < 2 ^ 32 by omega)]
/-- what stands in a row for the i-th of n nights -/
def q_tc (row : Int32) (n i : Nat) : Int32 := (row >>> ((2 * ((Int32.ofNat n - 1) - Int32.ofNat i)) &&& 31)) &&& 3
def q_tn (row : Int32) (n i : Nat) : Int32 := if q_tc row n i = 3 then 4 else q_tc row n i
theorem q_tn_n (row : Int32) (n i : Nat) : ∃ j, j ≤ 4 ∧ q_tn row n i = Int32.ofNat j := by
  unfold q_tn
  split
  · exact ⟨4, by omega, rfl⟩
  · obtain ⟨j, hj, e⟩ := q_and3 (row >>> ((2 * ((Int32.ofNat n - 1) - Int32.ofNat i)) &&& 31))
    exact ⟨j, by omega, e⟩
def q_tsum (row : Int32) (n : Nat) : Nat → Int32
  | 0 => 0
  | i + 1 => q_tsum row n i + q_tn row n i
def q_tdig (row : Int32) (n : Nat) : Nat → Int32
  | 0 => 0
  | i + 1 => 10 * q_tdig row n i + q_tn row n i
theorem q_tsum_n (row : Int32) (n : Nat) : ∀ i, i ≤ 5 → ∃ j, j ≤ 4 * i ∧ q_tsum row n i = Int32.ofNat j
  | 0, _ => ⟨0, by omega, rfl⟩
  | i + 1, h => by
    obtain ⟨j, hj, e⟩ := q_tsum_n row n i (by omega)
    obtain ⟨k, hk, e2⟩ := q_tn_n row n i
    refine ⟨j + k, by omega, ?_⟩
    show q_tsum row n i + q_tn row n i = _
    rw [e, e2, qi_add]
def q_quiet (ψ : QF) (l : QL) (n : Nat) (B bits row : Int32) : Nat → Nat → QR → Bool
  | 0, _, _ => true
  | k + 1, i, ρ => if q_can ρ (10 * q_tn row n i) = true then (if q_bit bits (Int32.ofNat i) = 1 ∧ B < q_str l (q_pay (10 * q_tn row n i) ρ) 0 then false else q_quiet ψ l n B bits row k (i + 1) (q_night ψ l 0 (q_pay (10 * q_tn row n i) ρ))) else false
def q_pls (o : Option (Nat × Int32)) (t : Nat) : Bool := match o with
  | none => true
  | some z => decide (t < z.1)
def q_pln (n : Nat) (Q : Int32 → Bool) : Nat → Nat → Option (Nat × Int32) → Option (Nat × Int32)
  | 0, _, o => o
  | k + 1, j, o => q_pln n Q k (j + 1) (if q_pls o (q_tsum (Int32.ofNat j) n n).toNatClampNeg = true ∧ Q (Int32.ofNat j) = true then some ((q_tsum (Int32.ofNat j) n n).toNatClampNeg, Int32.ofNat j) else o)
def q_plv (n : Nat) (w : Int32) (o : Option (Nat × Int32)) : Int32 := match o with
  | none => -1
  | some z => if w = 0 then Int32.ofNat (10 * z.1) else q_tdig z.2 n n
def q_plc (n : Nat) (o : Option (Nat × Int32)) (L R : Int32) : Prop := match o with
  | none => L = -1
  | some z => L = Int32.ofNat z.1 ∧ z.1 ≤ 20 ∧ R = z.2
def q_plm (n : Nat) (o : Option (Nat × Int32)) (L R : Int32) : Prop := match o with
  | none => L = -1 ∧ R = -1
  | some z => L = Int32.ofNat (10 * z.1) ∧ z.1 ≤ 20 ∧ R = q_tdig z.2 n n
theorem q_nm1 {j : Nat} (h : j < 2147483648) : ¬ Int32.ofNat j = -1 := fun q => by
  have h9 := congrArg Int32.toInt q
  rw [qi_i h] at h9
  have h8 : (-1 : Int32).toInt = -1 := by decide
  omega
theorem m_tensOf (N : Nat) (row : Int32) (n i : Nat) (S : AxS) : F_X9_tensOf N row (Int32.ofNat n) (Int32.ofNat i) S = some (q_tn row n i, S) := by
  unfold F_X9_tensOf q_tn q_tc
  split <;> rfl
theorem m_tens (N : Nat) (row : Int32) (n i : Nat) (S : AxS) : F_X10_tens N ((row >>> ((2 * ((Int32.ofNat n - 1) - Int32.ofNat i)) &&& 31)) &&& 3) S = some (q_tn row n i, S) := by
  unfold F_X10_tens q_tn
  obtain ⟨j, hj, e⟩ : ∃ j, j ≤ 3 ∧ q_tc row n i = Int32.ofNat j := q_and3 _
  show (if 3 ≤ q_tc row n i then _ else some (q_tc row n i, S)) = _
  rw [e]
  by_cases c : j = 3
  · rw [c]
    rfl
  · rw [if_neg (show ¬ (3 : Int32) ≤ Int32.ofNat j from qi_nge (i := 3) (by omega) (by omega)), if_neg (show ¬ Int32.ofNat j = 3 from qi_ne (j := 3) c (by omega) (by omega))]
theorem m_tsum (N : Nat) (row : Int32) {n : Nat} (hn : n ≤ 5) (S : AxS) : ∀ (k i fu : Nat), i + k = n → k < fu → F_X9_tensTogether_4 N fu row (Int32.ofNat n) (q_tsum row n i) (Int32.ofNat i) S = some (q_tsum row n n, S) := by
  intro k
  induction k with
  | zero =>
    intro i fu hi hfu
    obtain ⟨fu, rfl⟩ : ∃ q, fu = q + 1 := ⟨fu - 1, by omega⟩
    show F_X9_tensTogether_4b N (F_X9_tensTogether_4 N fu) row (Int32.ofNat n) (q_tsum row n i) (Int32.ofNat i) S = _
    unfold F_X9_tensTogether_4b
    rw [if_pos (qi_ge (by omega) (by omega)), show i = n by omega]
  | succ k ih =>
    intro i fu hi hfu
    obtain ⟨fu, rfl⟩ : ∃ q, fu = q + 1 := ⟨fu - 1, by omega⟩
    show F_X9_tensTogether_4b N (F_X9_tensTogether_4 N fu) row (Int32.ofNat n) (q_tsum row n i) (Int32.ofNat i) S = _
    unfold F_X9_tensTogether_4b
    rw [if_neg (qi_nge (by omega) (by omega)), m_tensOf, axB_s, qi_s]
    exact ih (i + 1) fu (by omega) (by omega)
theorem m_tdig (N : Nat) (row : Int32) {n : Nat} (hn : n ≤ 5) (S : AxS) : ∀ (k i fu : Nat), i + k = n → k < fu → F_X9_tensAsDigits_4 N fu row (Int32.ofNat n) (q_tdig row n i) (Int32.ofNat i) S = some (q_tdig row n n, S) := by
  intro k
  induction k with
  | zero =>
    intro i fu hi hfu
    obtain ⟨fu, rfl⟩ : ∃ q, fu = q + 1 := ⟨fu - 1, by omega⟩
    show F_X9_tensAsDigits_4b N (F_X9_tensAsDigits_4 N fu) row (Int32.ofNat n) (q_tdig row n i) (Int32.ofNat i) S = _
    unfold F_X9_tensAsDigits_4b
    rw [if_pos (qi_ge (by omega) (by omega)), show i = n by omega]
  | succ k ih =>
    intro i fu hi hfu
    obtain ⟨fu, rfl⟩ : ∃ q, fu = q + 1 := ⟨fu - 1, by omega⟩
    show F_X9_tensAsDigits_4b N (F_X9_tensAsDigits_4 N fu) row (Int32.ofNat n) (q_tdig row n i) (Int32.ofNat i) S = _
    unfold F_X9_tensAsDigits_4b
    rw [if_neg (qi_nge (by omega) (by omega)), m_tensOf, axB_s, qi_s]
    exact ih (i + 1) fu (by omega) (by omega)
theorem q_tn10 (row : Int32) (n i : Nat) : ∃ j, j ≤ 40 ∧ 10 * q_tn row n i = Int32.ofNat j := by
  obtain ⟨j, hj, e⟩ := q_tn_n row n i
  exact ⟨10 * j, by omega, by rw [e]; exact qi_mul 10 j⟩
section
variable {Z : AxS} {b m fa sf la sl bo sb N B : Nat} {ψ : QF} {l : QL} {r ρ : QR} {f f0 : Nat → Nat → Int32}
theorem qc_quiet_l (hN : 200 < N) {n : Nat} (hn : n ≤ 5) (row B bits : Int32) : ∀ (k i fu : Nat) (f : Nat → Nat → Int32) (ρ : QR), i + k = n → k < fu → HC Z b fa sf la sl bo sb f ψ l r → rdSt f (b + 34) = ρ → q_ok ψ (999 + i) ρ → ∃ f', F_X9_staysQuiet_14 N fu b row (Int32.ofNat n) B bits (Int32.ofNat i) (axM Z f) = some (if q_quiet ψ l n B bits row k i ρ = true then 1 else 0, axM Z f') ∧ ∀ x, ¬ scC b x → f' x = f x := by
  intro k
  induction k with
  | zero =>
    intro i fu f ρ hi hfu h hρ hok
    obtain ⟨fu, rfl⟩ : ∃ q, fu = q + 1 := ⟨fu - 1, by omega⟩
    show ∃ f', F_X9_staysQuiet_14b N (F_X9_staysQuiet_14 N fu) b row (Int32.ofNat n) B bits (Int32.ofNat i) (axM Z f) = _ ∧ _
    unfold F_X9_staysQuiet_14b
    rw [if_pos (qi_ge (by omega) (by omega)), m_rz1]
    exact ⟨f, rfl, fun _ _ => rfl⟩
  | succ k ih =>
    intro i fu f ρ hi hfu h hρ hok
    obtain ⟨fu, rfl⟩ : ∃ q, fu = q + 1 := ⟨fu - 1, by omega⟩
    show ∃ f', F_X9_staysQuiet_14b N (F_X9_staysQuiet_14 N fu) b row (Int32.ofNat n) B bits (Int32.ofNat i) (axM Z f) = _ ∧ _
    unfold F_X9_staysQuiet_14b F_X9_staysQuiet_72
    rw [if_neg (qi_nge (by omega) (by omega))]
    have h0 := h.1.1.1
    have p9 := h.1.2.2.2.2.2.2.2.2.1
    obtain ⟨tn, ht, et⟩ := q_tn10 row n i
    obtain ⟨f1, e1, g1, fr1⟩ := qc_pays_t (N := N) h hρ (10 * q_tn row n i)
    simp only [m_gr h0 p9.1, m_tensOf, axB_s, m_is p9.2.1, e1, m_is h0]
    show ∃ f', _ = some (if (if q_can ρ (10 * q_tn row n i) = true then (if q_bit bits (Int32.ofNat i) = 1 ∧ B < q_str l (q_pay (10 * q_tn row n i) ρ) 0 then false else q_quiet ψ l n B bits row k (i + 1) (q_night ψ l 0 (q_pay (10 * q_tn row n i) ρ))) else false) = true then 1 else 0, axM Z f') ∧ _
    by_cases c : q_can ρ (10 * q_tn row n i) = true
    · simp only [if_pos c]
      rw [if_neg (show ¬ (1 : Int32) = 0 by decide)]
      have hok1 : q_ok ψ (999 + i) (q_pay (10 * q_tn row n i) ρ) := by rw [et]; exact q_ok_pay (by omega) hok
      obtain ⟨f2, e2, g2, fr2⟩ := qc_pass_t hN (h.sc fr1) g1 (show 999 + i < 2147483000 by omega) hok1 0
      rw [e2, axB_s]
      obtain ⟨f3, e3, fr3⟩ := ih (i + 1) fu f2 _ (by omega) (by omega) ((h.sc fr1).sc fr2) g2 (q_ok_night l 0 h.2.2.1 (show 999 + i < 2147483000 by omega) hok1)
      rw [qi_s]
      have F3 : ∀ x, ¬ scC b x → f3 x = f x := fun x hx => by rw [fr3 x hx, fr2 x hx, fr1 x hx]
      by_cases cb : q_bit bits (Int32.ofNat i) = 1
      · rw [if_pos (show (bits >>> (Int32.ofNat i &&& 31)) &&& 1 = 1 from cb)]
        by_cases cs : q_str l (q_pay (10 * q_tn row n i) ρ) 0 ≤ B
        · rw [if_pos cs, if_neg (show ¬ (q_bit bits (Int32.ofNat i) = 1 ∧ B < q_str l (q_pay (10 * q_tn row n i) ρ) 0) from fun z => Int32.not_lt.mpr cs z.2)]
          exact ⟨f3, e3, F3⟩
        · rw [if_neg cs, if_pos (show q_bit bits (Int32.ofNat i) = 1 ∧ B < q_str l (q_pay (10 * q_tn row n i) ρ) 0 from ⟨cb, Int32.not_le.mp cs⟩), if_neg (show ¬ false = true by decide), m_rz0]
          exact ⟨f2, rfl, fun x hx => by rw [fr2 x hx, fr1 x hx]⟩
      · rw [if_neg (show ¬ (bits >>> (Int32.ofNat i &&& 31)) &&& 1 = 1 from cb), if_neg (show ¬ (q_bit bits (Int32.ofNat i) = 1 ∧ B < q_str l (q_pay (10 * q_tn row n i) ρ) 0) from fun z => cb z.1)]
        exact ⟨f3, e3, F3⟩
    · simp only [if_neg c]
      rw [if_pos trivial, m_rz0]
      exact ⟨f1, rfl, fr1⟩
theorem qc_quiet (hN : 200 < N) (h : HC Z b fa sf la sl bo sb f ψ l r) {n : Nat} (hn : n ≤ 5) (row B bits : Int32) : ∃ f', F_X9_staysQuiet N b row (Int32.ofNat n) B bits (axM Z f) = some (if q_quiet ψ l n B bits row n 0 r = true then 1 else 0, axM Z f') ∧ ∀ x, ¬ scC b x → f' x = f x := by
  have h0 := h.1.1.1
  have p8 := h.1.2.2.2.2.2.2.2.1
  have p9 := h.1.2.2.2.2.2.2.2.2.1
  unfold F_X9_staysQuiet
  obtain ⟨f1, e1, g1, fr1⟩ := qc_take_t hN h
  simp only [m_gr h0 p8.1, m_gr h0 p9.1, m_is p9.2.1, e1, axBV_s]
  obtain ⟨f2, e2, fr2⟩ := qc_quiet_l hN hn row B bits n 0 N f1 r (by omega) (by omega) (h.sc fr1) g1 (q_ok_mono (by omega) h.2.2.2.2.2.2)
  exact ⟨f2, e2, fun x hx => by rw [fr2 x hx, fr1 x hx]⟩
/-- the digits that the model lays out -/
def q_lay (f : Nat → Nat → Int32) (m : Nat) (row : Int32) (n k : Nat) : Prop := ∀ i, i < k → f (m + 463) i = q_tn row n i
theorem qm_quiet_l (hN : 200 < N) {n : Nat} (hn : n ≤ 5) (row B bits : Int32) : ∀ (k i fu : Nat) (f : Nat → Nat → Int32) (ρ : QR), i + k = n → k < fu → HM Z m f ψ l r → rdM f (m + 441) = ρ → ρ 12 = 0 → q_ok ψ (999 + i) ρ → q_lay f m row n n → ∃ f', F_X10_isPlan_14 N fu m (Int32.ofNat n) B bits (Int32.ofNat i) (axM Z f) = some (if q_quiet ψ l n B bits row k i ρ = true then 1 else 0, axM Z f') ∧ ∀ x, ¬ scM m x → f' x = f x := by
  intro k
  induction k with
  | zero =>
    intro i fu f ρ hi hfu h hρ h12 hok hlay
    obtain ⟨fu, rfl⟩ : ∃ q, fu = q + 1 := ⟨fu - 1, by omega⟩
    show ∃ f', F_X10_isPlan_14b N (F_X10_isPlan_14 N fu) m (Int32.ofNat n) B bits (Int32.ofNat i) (axM Z f) = _ ∧ _
    unfold F_X10_isPlan_14b
    rw [if_pos (qi_ge (by omega) (by omega)), m_rz1]
    exact ⟨f, rfl, fun _ _ => rfl⟩
  | succ k ih =>
    intro i fu f ρ hi hfu h hρ h12 hok hlay
    obtain ⟨fu, rfl⟩ : ∃ q, fu = q + 1 := ⟨fu - 1, by omega⟩
    show ∃ f', F_X10_isPlan_14b N (F_X10_isPlan_14 N fu) m (Int32.ofNat n) B bits (Int32.ofNat i) (axM Z f) = _ ∧ _
    unfold F_X10_isPlan_14b F_X10_isPlan_65
    rw [if_neg (qi_nge (by omega) (by omega))]
    have h0 := h.1.1
    have s4 := h.s441
    have p38 : axP Z m 38 = some (m + 463) := h.1.2.1 38 463 rfl
    have s463 : axL Z (m + 463) = some (1, 5) := h.1.2.2.1 463 _ rfl
    obtain ⟨tn, ht, et⟩ := q_tn10 row n i
    obtain ⟨f1, e1, g1, fr1'⟩ := qm_pays (N := N) (f := f) s4.2.1 (10 * q_tn row n i)
    rw [hρ] at e1 g1
    have fr1 : ∀ x, ¬ scM m x → f1 x = f x := fun x hx => fr1' x (by unfold scM at hx; omega)
    simp only [m_gr h0 s4.1, m_gr h0 p38, m_ldn s463 (show i < 5 by omega) (by omega), hlay i (by omega), axB_s, e1, m_has, m_is h0]
    show ∃ f', _ = some (if (if q_can ρ (10 * q_tn row n i) = true then (if q_bit bits (Int32.ofNat i) = 1 ∧ B < q_str l (q_pay (10 * q_tn row n i) ρ) 0 then false else q_quiet ψ l n B bits row k (i + 1) (q_night ψ l 0 (q_pay (10 * q_tn row n i) ρ))) else false) = true then 1 else 0, axM Z f') ∧ _
    by_cases c : q_can ρ (10 * q_tn row n i) = true
    · simp only [if_pos c]
      rw [if_neg (show ¬ (1 : Int32) = 0 by decide)]
      have hok1 : q_ok ψ (999 + i) (q_pay (10 * q_tn row n i) ρ) := by rw [et]; exact q_ok_pay (by omega) hok
      have p12 : q_pay (10 * q_tn row n i) ρ 12 = 0 := by rw [q_pay_12, h12]
      have go : ∀ f2, rdM f2 (m + 441) = q_pay (10 * q_tn row n i) ρ → (∀ x, ¬ scM m x → f2 x = f x) → f2 (m + 463) = f (m + 463) → ∃ f', (axBV (F_X10_nightEnds N m (m + 441) (axM Z f2)) fun T3 => F_X10_isPlan_14 N fu m (Int32.ofNat n) B bits (Int32.ofNat i + 1) T3) = some (if q_quiet ψ l n B bits row k (i + 1) (q_night ψ l 0 (q_pay (10 * q_tn row n i) ρ)) = true then 1 else 0, axM Z f') ∧ ∀ x, ¬ scM m x → f' x = f x := by
        intro f2 g2 fr2 d2
        have s := (h.sc fr2).s441
        obtain ⟨f3, e3, g3, fr3⟩ := qm_nightEnds (f := f2) (B := 999 + i) hN h.1 s.2.1 (by omega) (h.sc fr2).2.1 h.2.2.1 (h.sc fr2).2.2.2.1 h.2.2.2.2.1 (by omega) (by rw [g2]; exact hok1)
        rw [g2, p12] at g3
        rw [e3, axBV_s, qi_s]
        have fr3' : ∀ x, ¬ scM m x → f3 x = f x := fun x hx => by
          rw [fr3 x (by unfold scM at hx; omega) (by unfold scM at hx; omega) (by unfold scM at hx; omega), fr2 x hx]
        obtain ⟨f4, e4, fr4⟩ := ih (i + 1) fu f3 _ (by omega) (by omega) (h.sc fr3') g3 (by rw [q_night_12, p12]) (q_ok_night l 0 h.2.2.1 (show 999 + i < 2147483000 by omega) hok1) (fun j hj => by rw [fr3 (m + 463) (by omega) (by omega) (by omega), d2]; exact hlay j hj)
        exact ⟨f4, e4, fun x hx => by rw [fr4 x hx, fr3' x hx]⟩
      by_cases cb : q_bit bits (Int32.ofNat i) = 1
      · simp only [if_pos cb]
        rw [if_neg (show ¬ (1 : Int32) = 0 by decide)]
        obtain ⟨f2, e2, fr2⟩ := qm_strokesOf (f := f1) (a := m + 441) hN h.1 s4.2.1 (by omega) (h.sc fr1).2.2.2.1 h.2.2.2.2.1
        rw [g1, p12] at e2
        rw [e2, axB_s]
        have G2 : rdM f2 (m + 441) = q_pay (10 * q_tn row n i) ρ := by
          rw [← g1]
          exact rdM_e (fun j _ => by rw [fr2 _ (by omega) (by omega)])
        by_cases cs : q_str l (q_pay (10 * q_tn row n i) ρ) 0 ≤ B
        · rw [if_pos cs, if_neg (show ¬ (q_bit bits (Int32.ofNat i) = 1 ∧ B < q_str l (q_pay (10 * q_tn row n i) ρ) 0) from fun z => Int32.not_lt.mpr cs z.2)]
          rw [m_gr h0 s4.1, m_is h0]
          exact go f2 G2 (fun x hx => by rw [fr2 x (by unfold scM at hx; omega) (by unfold scM at hx; omega), fr1 x hx]) (by rw [fr2 _ (by omega) (by omega), fr1' _ (by omega)])
        · rw [if_neg cs, if_pos (show q_bit bits (Int32.ofNat i) = 1 ∧ B < q_str l (q_pay (10 * q_tn row n i) ρ) 0 from ⟨cb, Int32.not_le.mp cs⟩), if_neg (show ¬ false = true by decide), m_rz0]
          exact ⟨f2, rfl, fun x hx => by rw [fr2 x (by unfold scM at hx; omega) (by unfold scM at hx; omega), fr1 x hx]⟩
      · simp only [if_neg cb]
        rw [if_pos trivial, if_neg (show ¬ (q_bit bits (Int32.ofNat i) = 1 ∧ B < q_str l (q_pay (10 * q_tn row n i) ρ) 0) from fun z => cb z.1)]
        exact go f1 g1 fr1 (fr1' _ (by omega))
    · simp only [if_neg c]
      rw [if_pos trivial, m_rz0]
      exact ⟨f1, rfl, fr1⟩
theorem qm_quiet (hN : 200 < N) (h : HM Z m f ψ l r) {n : Nat} (hn : n ≤ 5) (row B bits : Int32) (hlay : q_lay f m row n n) : ∃ f', F_X10_isPlan N m (Int32.ofNat n) B bits (axM Z f) = some (if q_quiet ψ l n B bits row n 0 r = true then 1 else 0, axM Z f') ∧ ∀ x, ¬ scM m x → f' x = f x := by
  have h0 := h.1.1
  have s4 := h.s441
  unfold F_X10_isPlan
  obtain ⟨f1, e1, g1, fr1⟩ := qm_copies (f := f) hN s4.2.1 s4.2.2.2 (by omega)
  have F1 : ∀ x, ¬ scM m x → f1 x = f x := fun x hx => fr1 x (by unfold scM at hx; omega)
  simp only [m_gr h0 s4.1, m_gr h0 s4.2.2.1, e1, axBV_s]
  obtain ⟨f2, e2, fr2⟩ := qm_quiet_l hN hn row B bits n 0 N f1 r (by omega) (by omega) (h.sc F1) (by rw [g1, h.2.2.2.2.2.1]) h.2.2.2.2.2.2.2 (q_ok_mono (by omega) h.2.2.2.2.2.2.1) (fun j hj => by rw [fr1 _ (by omega)]; exact hlay j hj)
  exact ⟨f2, e2, fun x hx => by rw [fr2 x hx, F1 x hx]⟩
theorem q_shl2 {n : Nat} (hn : n ≤ 5) : (1 : Int32) <<< ((2 * Int32.ofNat n) &&& 31) = Int32.ofNat (4 ^ n) := by
  have : n = 0 ∨ n = 1 ∨ n = 2 ∨ n = 3 ∨ n = 4 ∨ n = 5 := by omega
  rcases this with rfl | rfl | rfl | rfl | rfl | rfl <;> decide
theorem q_pw4 {n : Nat} (hn : n ≤ 5) : 4 ^ n ≤ 1024 := by
  have : n = 0 ∨ n = 1 ∨ n = 2 ∨ n = 3 ∨ n = 4 ∨ n = 5 := by omega
  rcases this with rfl | rfl | rfl | rfl | rfl | rfl <;> decide
theorem qc_plan_l (hN : 2000 < N) {n : Nat} (hn : n ≤ 5) (B bits w : Int32) : ∀ (k j fu : Nat) (f : Nat → Nat → Int32) (o : Option (Nat × Int32)) (L R : Int32), j + k = 4 ^ n → k < fu → HC Z b fa sf la sl bo sb f ψ l r → q_plc n o L R → CQz Z b f (F_X9_plan_69 N fu b (Int32.ofNat n) B bits w L R (Int32.ofNat j) (axM Z f)) (q_plv n w (q_pln n (fun row => q_quiet ψ l n B bits row n 0 r) k j o)) := by
  have h4 := q_pw4 hn
  intro k
  induction k with
  | zero =>
    intro j fu f o L R hj hfu h ho
    obtain ⟨fu, rfl⟩ : ∃ q, fu = q + 1 := ⟨fu - 1, by omega⟩
    show CQz Z b f (F_X9_plan_69b N (F_X9_plan_69 N fu) b (Int32.ofNat n) B bits w L R (Int32.ofNat j) (axM Z f)) _
    unfold F_X9_plan_69b
    rw [q_shl2 hn, if_pos (qi_ge (by omega) (by omega))]
    show CQz Z b f _ (q_plv n w o)
    unfold q_plc at ho
    unfold q_plv
    cases o with
    | none =>
      have ho : L = -1 := ho
      rw [if_pos ho]
      exact CQz.mk0 rfl
    | some z =>
      obtain ⟨e1, e2, e3⟩ : L = Int32.ofNat z.1 ∧ z.1 ≤ 20 ∧ R = z.2 := ho
      rw [e1, if_neg (q_nm1 (by omega)), e3]
      show CQz Z b f _ (if w = 0 then Int32.ofNat (10 * z.1) else q_tdig z.2 n n)
      by_cases c : w = 0
      · rw [if_pos c, if_pos c, show (10 : Int32) * Int32.ofNat z.1 = Int32.ofNat (10 * z.1) from qi_mul 10 _]
        exact CQz.mk0 rfl
      · rw [if_neg c, if_neg c]
        unfold F_X9_tensAsDigits
        have := m_tdig N z.2 hn (axM Z f) n 0 N (by omega) (by omega)
        rw [show F_X9_tensAsDigits_4 N N z.2 (Int32.ofNat n) 0 0 (axM Z f) = _ from this, axB_s]
        exact CQz.mk0 rfl
  | succ k ih =>
    intro j fu f o L R hj hfu h ho
    obtain ⟨fu, rfl⟩ : ∃ q, fu = q + 1 := ⟨fu - 1, by omega⟩
    show CQz Z b f (F_X9_plan_69b N (F_X9_plan_69 N fu) b (Int32.ofNat n) B bits w L R (Int32.ofNat j) (axM Z f)) _
    have h0 := h.1.1.1
    unfold F_X9_plan_69b F_X9_plan_100 F_X9_plan_120 F_X9_tensTogether
    rw [q_shl2 hn, if_neg (qi_nge (by omega) (by omega))]
    have := m_tsum N (Int32.ofNat j) hn (axM Z f) n 0 N (by omega) (by omega)
    rw [show F_X9_tensTogether_4 N N (Int32.ofNat j) (Int32.ofNat n) 0 0 (axM Z f) = _ from this, axB_s]
    obtain ⟨x, hx, ex⟩ := q_tsum_n (Int32.ofNat j) n n hn
    obtain ⟨f1, e1, fr1⟩ := qc_quiet (show 200 < N by omega) h hn (Int32.ofNat j) B bits
    simp only [m_is h0, e1, axB_s, qi_s]
    show CQz Z b f _ (q_plv n w (q_pln n (fun row => q_quiet ψ l n B bits row n 0 r) k (j + 1) (if q_pls o (q_tsum (Int32.ofNat j) n n).toNatClampNeg = true ∧ q_quiet ψ l n B bits (Int32.ofNat j) n 0 r = true then some ((q_tsum (Int32.ofNat j) n n).toNatClampNeg, Int32.ofNat j) else o)))
    rw [ex, qi_tn (by omega)]
    have keep : ∀ g, (∀ y, ¬ scC b y → g y = f y) → CQz Z b f (F_X9_plan_69 N fu b (Int32.ofNat n) B bits w L R (Int32.ofNat (j + 1)) (axM Z g)) (q_plv n w (q_pln n (fun row => q_quiet ψ l n B bits row n 0 r) k (j + 1) o)) := fun g hg => by
      obtain ⟨f2, e2, fr2⟩ := ih (j + 1) fu g o L R (by omega) (by omega) (h.sc hg) ho
      exact ⟨f2, e2, fun y hy => by rw [fr2 y hy, hg y hy]⟩
    have take : CQz Z b f (F_X9_plan_69 N fu b (Int32.ofNat n) B bits w (Int32.ofNat x) (Int32.ofNat j) (Int32.ofNat (j + 1)) (axM Z f1)) (q_plv n w (q_pln n (fun row => q_quiet ψ l n B bits row n 0 r) k (j + 1) (some (x, Int32.ofNat j)))) := by
      obtain ⟨f2, e2, fr2⟩ := ih (j + 1) fu f1 (some (x, Int32.ofNat j)) (Int32.ofNat x) (Int32.ofNat j) (by omega) (by omega) (h.sc fr1) ⟨rfl, by show x ≤ 20; omega, rfl⟩
      exact ⟨f2, e2, fun y hy => by rw [fr2 y hy, fr1 y hy]⟩
    have both : CQz Z b f (if (if q_quiet ψ l n B bits (Int32.ofNat j) n 0 r = true then (1 : Int32) else 0) = 0 then F_X9_plan_69 N fu b (Int32.ofNat n) B bits w L R (Int32.ofNat (j + 1)) (axM Z f1) else F_X9_plan_69 N fu b (Int32.ofNat n) B bits w (Int32.ofNat x) (Int32.ofNat j) (Int32.ofNat (j + 1)) (axM Z f1)) (q_plv n w (q_pln n (fun row => q_quiet ψ l n B bits row n 0 r) k (j + 1) (if q_quiet ψ l n B bits (Int32.ofNat j) n 0 r = true then some (x, Int32.ofNat j) else o))) := by
      by_cases cq : q_quiet ψ l n B bits (Int32.ofNat j) n 0 r = true
      · simp only [if_pos cq]
        rw [if_neg (show ¬ (1 : Int32) = 0 by decide)]
        exact take
      · simp only [if_neg cq]
        rw [if_pos trivial]
        exact keep f1 fr1
    cases o with
    | none =>
      have ho' : L = -1 := ho
      rw [if_pos ho']
      simp only [q_pls, true_and]
      exact both
    | some z =>
      obtain ⟨a1, a2, a3⟩ : L = Int32.ofNat z.1 ∧ z.1 ≤ 20 ∧ R = z.2 := ho
      rw [if_neg (by rw [a1]; exact q_nm1 (by omega))]
      by_cases cx : x < z.1
      · rw [if_neg (by rw [a1]; exact qi_nge (by omega) (by omega))]
        simp only [q_pls, decide_eq_true cx, true_and]
        exact both
      · rw [if_pos (by rw [a1]; exact qi_ge (by omega) (by omega)), if_neg (fun q => cx (of_decide_eq_true q.1))]
        exact keep f (fun _ _ => rfl)
def q_planc (n B bits w : Int32) : Prop := (0 ≤ n ∧ n ≤ 5) ∧ (0 ≤ B ∧ B ≤ 999) ∧ (0 ≤ bits ∧ bits < 1 <<< (n &&& 31)) ∧ (0 ≤ w ∧ w ≤ 1)
theorem q_rg2 {α : Type} {x y z : Int32} {A B C : α} (hA : A = C) : (if x < y then A else (if z ≤ x then A else B)) = if y ≤ x ∧ x < z then B else C := by
  subst hA
  by_cases c1 : x < y
  · rw [if_pos c1, if_neg (fun q => Int32.not_lt.mpr q.1 c1)]
  · rw [if_neg c1]
    by_cases c2 : z ≤ x
    · rw [if_pos c2, if_neg (fun q => Int32.not_le.mpr q.2 c2)]
    · rw [if_neg c2, if_pos ⟨Int32.not_lt.mp c1, Int32.not_le.mp c2⟩]
theorem qc_plan (hN : 2000 < N) (h : HC Z b fa sf la sl bo sb f ψ l r) (n B bits w : Int32) : (q_planc n B bits w → CQz Z b f (F_X9_plan N b n B bits w (axM Z f)) (q_plv n.toNatClampNeg w (q_pln n.toNatClampNeg (fun row => q_quiet ψ l n.toNatClampNeg B bits row n.toNatClampNeg 0 r) (4 ^ n.toNatClampNeg) 0 none))) ∧ (¬ q_planc n B bits w → CTz Z b f (F_X9_plan N b n B bits w (axM Z f)) q_iae 15) := by
  have h0 := h.1.1.1
  unfold F_X9_plan F_X9_plan_25 F_X9_plan_26 F_X9_plan_56 F_X9_plan_57
  simp only [qc_needT h0, qc_needO h0, q_rg rfl, q_rg2 rfl]
  refine ⟨fun ⟨c1, c2, c3, c4⟩ => ?_, fun c => ?_⟩
  · rw [if_pos c1, if_pos c2, if_pos c3, if_pos c4]
    obtain ⟨nn, hn, rfl⟩ := q_nn c1.1 (show n ≤ Int32.ofNat 5 from c1.2) (by omega)
    rw [qi_tn (by omega)]
    have h4 := q_pw4 hn
    exact qc_plan_l hN hn B bits w (4 ^ nn) 0 N f none (-1) 0 (by omega) (by omega) h rfl
  · refine CTz.mk ?_
    by_cases c1 : 0 ≤ n ∧ n ≤ 5
    · rw [if_pos c1]
      by_cases c2 : 0 ≤ B ∧ B ≤ 999
      · rw [if_pos c2]
        by_cases c3 : 0 ≤ bits ∧ bits < 1 <<< (n &&& 31)
        · rw [if_pos c3, if_neg (fun z => c ⟨c1, c2, c3, z⟩)]
        · rw [if_neg c3]
      · rw [if_neg c2]
    · rw [if_neg c1]
/-- the model lays a row out -/
theorem qm_plan_d (hN : 200 < N) {n : Nat} (hn : n ≤ 5) (row : Int32) (K : Nat → Int32 → Int32 → Int32 → Int32 → Int32 → Int32 → Int32 → Int32 → AxS → Option (Int32 × AxS)) (v2 v3 v4 v5 v6 v7 : Int32) : ∀ (k i fu : Nat) (f : Nat → Nat → Int32), i + k = n → k < fu → HM Z m f ψ l r → q_lay f m row n i → ∃ f', F_X10_plan_104 N K fu m (Int32.ofNat n) v2 v3 v4 v5 v6 v7 row (10 * q_tsum row n i) (q_tdig row n i) (Int32.ofNat i) (axM Z f) = (if v6 = -1 then F_X10_plan_182 N K m (Int32.ofNat n) v2 v3 v4 v5 v6 v7 row (10 * q_tsum row n n) (q_tdig row n n) (axM Z f') else (if v6 ≤ 10 * q_tsum row n n then F_X10_plan_203 N K m (Int32.ofNat n) v2 v3 v4 v5 v6 v7 row (axM Z f') else F_X10_plan_182 N K m (Int32.ofNat n) v2 v3 v4 v5 v6 v7 row (10 * q_tsum row n n) (q_tdig row n n) (axM Z f'))) ∧ q_lay f' m row n n ∧ ∀ x, ¬ scM m x → f' x = f x := by
  intro k
  induction k with
  | zero =>
    intro i fu f hi hfu h hlay
    obtain ⟨fu, rfl⟩ : ∃ q, fu = q + 1 := ⟨fu - 1, by omega⟩
    show ∃ f', F_X10_plan_104b N K (F_X10_plan_104 N K fu) m (Int32.ofNat n) v2 v3 v4 v5 v6 v7 row (10 * q_tsum row n i) (q_tdig row n i) (Int32.ofNat i) (axM Z f) = _ ∧ _
    unfold F_X10_plan_104b
    have e : i = n := by omega
    subst e
    rw [if_pos (Int32.le_refl _)]
    exact ⟨f, rfl, hlay, fun _ _ => rfl⟩
  | succ k ih =>
    intro i fu f hi hfu h hlay
    obtain ⟨fu, rfl⟩ : ∃ q, fu = q + 1 := ⟨fu - 1, by omega⟩
    show ∃ f', F_X10_plan_104b N K (F_X10_plan_104 N K fu) m (Int32.ofNat n) v2 v3 v4 v5 v6 v7 row (10 * q_tsum row n i) (q_tdig row n i) (Int32.ofNat i) (axM Z f) = _ ∧ _
    unfold F_X10_plan_104b
    have h0 := h.1.1
    have p38 : axP Z m 38 = some (m + 463) := h.1.2.1 38 463 rfl
    have s463 : axL Z (m + 463) = some (1, 5) := h.1.2.2.1 463 _ rfl
    rw [if_neg (qi_nge (by omega) (by omega))]
    simp only [m_gr h0 p38, m_tens, axB_s, m_stn s463 (show i < 5 by omega) (by omega), m_ldn s463 (show i < 5 by omega) (by omega), ax2_k, qi_s]
    have F1 : ∀ x, ¬ scM m x → ax2 f (m + 463) i (q_tn row n i) x = f x := fun x hx => ax2_n _ _ _ _ (by unfold scM at hx; omega)
    obtain ⟨f2, e2, l2, fr2⟩ := ih (i + 1) fu (ax2 f (m + 463) i (q_tn row n i)) (by omega) (by omega) (h.sc F1) (fun j hj => by
      rw [ax2_a]
      by_cases c : j = i
      · rw [if_pos c, c]
      · rw [if_neg c]
        exact hlay j (by omega))
    refine ⟨f2, ?_, l2, fun x hx => by rw [fr2 x hx, F1 x hx]⟩
    rw [← e2]
    congr 1
    show 10 * q_tsum row n i + 10 * q_tn row n i = 10 * (q_tsum row n i + q_tn row n i)
    rw [Int32.mul_add]
theorem qm_plan_l (hN : 2000 < N) {n : Nat} (hn : n ≤ 5) (B bits w : Int32) : ∀ (k j fu : Nat) (f : Nat → Nat → Int32) (o : Option (Nat × Int32)) (L R : Int32), j + k = 4 ^ n → k < fu → HM Z m f ψ l r → q_plm n o L R → ∃ f', F_X10_plan_88 N fu m (Int32.ofNat n) B bits w (Int32.ofNat (4 ^ n)) L R (Int32.ofNat j) (axM Z f) = some (q_plv n w (q_pln n (fun row => q_quiet ψ l n B bits row n 0 r) k j o), axM Z f') ∧ ∀ x, ¬ scM m x → f' x = f x := by
  have h4 := q_pw4 hn
  intro k
  induction k with
  | zero =>
    intro j fu f o L R hj hfu h ho
    obtain ⟨fu, rfl⟩ : ∃ q, fu = q + 1 := ⟨fu - 1, by omega⟩
    show ∃ f', F_X10_plan_88b N (F_X10_plan_88 N fu) m (Int32.ofNat n) B bits w (Int32.ofNat (4 ^ n)) L R (Int32.ofNat j) (axM Z f) = _ ∧ _
    unfold F_X10_plan_88b
    rw [if_pos (qi_ge (by omega) (by omega))]
    refine ⟨f, ?_, fun _ _ => rfl⟩
    show _ = some (q_plv n w o, axM Z f)
    unfold q_plm at ho
    unfold q_plv
    cases o with
    | none =>
      obtain ⟨a1, a2⟩ : L = -1 ∧ R = -1 := ho
      rw [a1, a2, ite_self]
    | some z =>
      obtain ⟨e1, e2, e3⟩ : L = Int32.ofNat (10 * z.1) ∧ z.1 ≤ 20 ∧ R = q_tdig z.2 n n := ho
      rw [e1, e3]
      show _ = some ((if w = 0 then Int32.ofNat (10 * z.1) else q_tdig z.2 n n), axM Z f)
      by_cases c : w = 0
      · rw [if_pos c, if_pos c]
      · rw [if_neg c, if_neg c]
  | succ k ih =>
    intro j fu f o L R hj hfu h ho
    obtain ⟨fu, rfl⟩ : ∃ q, fu = q + 1 := ⟨fu - 1, by omega⟩
    show ∃ f', F_X10_plan_88b N (F_X10_plan_88 N fu) m (Int32.ofNat n) B bits w (Int32.ofNat (4 ^ n)) L R (Int32.ofNat j) (axM Z f) = _ ∧ _
    have h0 := h.1.1
    unfold F_X10_plan_88b
    rw [if_neg (qi_nge (by omega) (by omega))]
    obtain ⟨fd, ed, ld, frd⟩ := qm_plan_d (show 200 < N by omega) hn (Int32.ofNat j) (F_X10_plan_88 N fu) B bits w (Int32.ofNat (4 ^ n)) L R n 0 N f (by omega) (by omega) h (fun i hi => absurd hi (by omega))
    have ed' : F_X10_plan_104 N (F_X10_plan_88 N fu) N m (Int32.ofNat n) B bits w (Int32.ofNat (4 ^ n)) L R (Int32.ofNat j) 0 0 0 (axM Z f) = _ := ed
    rw [ed']
    obtain ⟨x, hx, ex⟩ := q_tsum_n (Int32.ofNat j) n n hn
    obtain ⟨f1, e1, fr1'⟩ := qm_quiet (show 200 < N by omega) (h.sc frd) hn (Int32.ofNat j) B bits ld
    have fr1 : ∀ y, ¬ scM m y → f1 y = f y := fun y hy => by rw [fr1' y hy, frd y hy]
    unfold F_X10_plan_182 F_X10_plan_203
    simp only [m_is h0, e1, axB_s, qi_s]
    show ∃ f', _ = some (q_plv n w (q_pln n (fun row => q_quiet ψ l n B bits row n 0 r) k (j + 1) (if q_pls o (q_tsum (Int32.ofNat j) n n).toNatClampNeg = true ∧ q_quiet ψ l n B bits (Int32.ofNat j) n 0 r = true then some ((q_tsum (Int32.ofNat j) n n).toNatClampNeg, Int32.ofNat j) else o)), axM Z f') ∧ _
    rw [ex, qi_tn (by omega), show (10 : Int32) * Int32.ofNat x = Int32.ofNat (10 * x) from qi_mul 10 _]
    have keep : ∀ g, (∀ y, ¬ scM m y → g y = f y) → ∃ f', F_X10_plan_88 N fu m (Int32.ofNat n) B bits w (Int32.ofNat (4 ^ n)) L R (Int32.ofNat (j + 1)) (axM Z g) = some (q_plv n w (q_pln n (fun row => q_quiet ψ l n B bits row n 0 r) k (j + 1) o), axM Z f') ∧ ∀ x, ¬ scM m x → f' x = f x := fun g hg => by
      obtain ⟨f2, e2, fr2⟩ := ih (j + 1) fu g o L R (by omega) (by omega) (h.sc hg) ho
      exact ⟨f2, e2, fun y hy => by rw [fr2 y hy, hg y hy]⟩
    have take : ∃ f', F_X10_plan_88 N fu m (Int32.ofNat n) B bits w (Int32.ofNat (4 ^ n)) (Int32.ofNat (10 * x)) (q_tdig (Int32.ofNat j) n n) (Int32.ofNat (j + 1)) (axM Z f1) = some (q_plv n w (q_pln n (fun row => q_quiet ψ l n B bits row n 0 r) k (j + 1) (some (x, Int32.ofNat j))), axM Z f') ∧ ∀ x, ¬ scM m x → f' x = f x := by
      obtain ⟨f2, e2, fr2⟩ := ih (j + 1) fu f1 (some (x, Int32.ofNat j)) (Int32.ofNat (10 * x)) (q_tdig (Int32.ofNat j) n n) (by omega) (by omega) (h.sc fr1) ⟨rfl, by show x ≤ 20; omega, rfl⟩
      exact ⟨f2, e2, fun y hy => by rw [fr2 y hy, fr1 y hy]⟩
    have both : ∃ f', (if (if q_quiet ψ l n B bits (Int32.ofNat j) n 0 r = true then (1 : Int32) else 0) = 0 then F_X10_plan_88 N fu m (Int32.ofNat n) B bits w (Int32.ofNat (4 ^ n)) L R (Int32.ofNat (j + 1)) (axM Z f1) else F_X10_plan_88 N fu m (Int32.ofNat n) B bits w (Int32.ofNat (4 ^ n)) (Int32.ofNat (10 * x)) (q_tdig (Int32.ofNat j) n n) (Int32.ofNat (j + 1)) (axM Z f1)) = some (q_plv n w (q_pln n (fun row => q_quiet ψ l n B bits row n 0 r) k (j + 1) (if q_quiet ψ l n B bits (Int32.ofNat j) n 0 r = true then some (x, Int32.ofNat j) else o)), axM Z f') ∧ ∀ x, ¬ scM m x → f' x = f x := by
      by_cases cq : q_quiet ψ l n B bits (Int32.ofNat j) n 0 r = true
      · simp only [if_pos cq]
        rw [if_neg (show ¬ (1 : Int32) = 0 by decide)]
        exact take
      · simp only [if_neg cq]
        rw [if_pos trivial]
        exact keep f1 fr1
    cases o with
    | none =>
      obtain ⟨ho', -⟩ : L = -1 ∧ R = -1 := ho
      rw [if_pos ho']
      simp only [q_pls, true_and]
      exact both
    | some z =>
      obtain ⟨a1, a2, a3⟩ : L = Int32.ofNat (10 * z.1) ∧ z.1 ≤ 20 ∧ R = q_tdig z.2 n n := ho
      rw [if_neg (by rw [a1]; exact q_nm1 (by omega))]
      by_cases cx : x < z.1
      · rw [if_neg (by rw [a1]; exact qi_nge (by omega) (by omega))]
        simp only [q_pls, decide_eq_true cx, true_and]
        exact both
      · rw [if_pos (by rw [a1]; exact qi_ge (by omega) (by omega)), if_neg (fun q => cx (of_decide_eq_true q.1))]
        exact keep fd frd
theorem q_bitsN {n : Nat} (hn : n ≤ 5) (x : Int32) : (0 ≤ x ∧ x ≤ (1 : Int32) <<< (q_min 5 (q_max 0 (Int32.ofNat n)) &&& 31) - 1) = (0 ≤ x ∧ x < 1 <<< (Int32.ofNat n &&& 31)) := by
  rw [show q_min 5 (q_max 0 (Int32.ofNat n)) = Int32.ofNat n by
    rw [show q_max 0 (Int32.ofNat n) = Int32.ofNat (max 0 n) from q_maxn (i := 0) (by omega) (by omega), show q_min 5 (Int32.ofNat (max 0 n)) = Int32.ofNat (min 5 (max 0 n)) from q_minn (i := 5) (by omega) (by omega)]
    congr 1
    omega]
  have : n = 0 ∨ n = 1 ∨ n = 2 ∨ n = 3 ∨ n = 4 ∨ n = 5 := by omega
  rcases this with rfl | rfl | rfl | rfl | rfl | rfl
  · exact q_le1 (x := x) (n := 1) (by omega)
  · exact q_le1 (x := x) (n := 2) (by omega)
  · exact q_le1 (x := x) (n := 4) (by omega)
  · exact q_le1 (x := x) (n := 8) (by omega)
  · exact q_le1 (x := x) (n := 16) (by omega)
  · exact q_le1 (x := x) (n := 32) (by omega)
theorem qm_plan (hN : 2000 < N) (h : HM Z m f ψ l r) (n B bits w : Int32) : (q_planc n B bits w → MQz Z m f (F_X10_plan N m n B bits w (axM Z f)) (q_plv n.toNatClampNeg w (q_pln n.toNatClampNeg (fun row => q_quiet ψ l n.toNatClampNeg B bits row n.toNatClampNeg 0 r) (4 ^ n.toNatClampNeg) 0 none))) ∧ (¬ q_planc n B bits w → MTz Z m f (F_X10_plan N m n B bits w (axM Z f)) 1 1) := by
  have h' := h.t0
  have h0 := h.1.1
  unfold F_X10_plan F_X10_plan_57 F_X10_plan_62
  simp only [m_pi h0, m_is h0, m_in, axB_s, m_more, m_less]
  refine ⟨fun ⟨c1, c2, c3, c4⟩ => ?_, fun c => ?_⟩
  · obtain ⟨nn, hn, rfl⟩ := q_nn c1.1 (show n ≤ Int32.ofNat 5 from c1.2) (by omega)
    rw [if_pos c1, if_neg (by decide), if_pos c2, if_neg (by decide), if_pos (Eq.mpr (q_bitsN hn bits) c3), if_neg (by decide), if_pos c4, if_neg (by decide), qm_badF N h0]
    rw [qi_tn (by omega), q_shl2 hn]
    have h4 := q_pw4 hn
    obtain ⟨f1, e1, fr1⟩ := qm_plan_l hN hn B bits w (4 ^ nn) 0 N (ax2 f m 0 0) none (-1) (-1) (by omega) (by omega) h' ⟨rfl, rfl⟩
    exact MQz.mkk f1 e1 (KM.sc fr1)
  · by_cases c1 : 0 ≤ n ∧ n ≤ 5
    · obtain ⟨nn, hn, rfl⟩ := q_nn c1.1 (show n ≤ Int32.ofNat 5 from c1.2) (by omega)
      rw [if_pos c1, if_neg (by decide)]
      by_cases c2 : 0 ≤ B ∧ B ≤ 999
      · rw [if_pos c2, if_neg (by decide)]
        by_cases c3 : 0 ≤ bits ∧ bits < 1 <<< (Int32.ofNat nn &&& 31)
        · rw [if_pos (Eq.mpr (q_bitsN hn bits) c3), if_neg (by decide), if_neg (fun z => c ⟨c1, c2, c3, z⟩), if_pos rfl]
          exact qm_badT1 N h.1 _ _
        · rw [if_neg (fun z => c3 (Eq.mp (q_bitsN hn bits) z)), if_pos rfl]
          exact qm_badT1 N h.1 _ _
      · rw [if_neg c2, if_pos rfl]
        exact qm_badT1 N h.1 _ _
    · rw [if_neg c1, if_pos rfl]
      exact qm_badT1 N h.1 _ _
end
