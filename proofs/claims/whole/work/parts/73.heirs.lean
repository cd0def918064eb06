/-! heirs -/
theorem qi_modn {i j : Nat} (hi : i < 2147483648) (hj : j < 2147483648) : Int32.ofNat i - Int32.ofNat i / Int32.ofNat j * Int32.ofNat j = Int32.ofNat (i % j) := by
  rw [qi_div hi hj, ← Int32.ofNat_mul, qi_sub (Nat.div_mul_le_self i j)]
  congr 1
  have := Nat.div_add_mod i j
  rw [Nat.mul_comm] at this
  omega
theorem qi_subn {i j : Nat} (h : i < j) (hj : j < 2147483648) : ¬ (0 ≤ Int32.ofNat i - Int32.ofNat j) := by
  rw [Int32.le_iff_toInt_le, Int32.toInt_sub, qi_i (by omega), qi_i hj, show (0 : Int32).toInt = 0 by decide, Int.bmod_eq_of_le (by omega) (by omega)]
  omega
theorem qi_nz {j : Nat} (h : j < 2147483648) (h0 : 0 < j) : Int32.ofNat j ≠ 0 := qi_ne (j := 0) (by omega) h (by omega)
def q_bid (base nh w h : Nat) : Nat := (w / base ^ (nh - 1 - h)) % base
def q_bsum (β : Nat → Nat) : Nat → Nat
  | 0 => 0
  | n + 1 => q_bsum β n + β n
theorem q_bsum_le {β : Nat → Nat} {K : Nat} (h : ∀ i, β i ≤ K) : ∀ n, q_bsum β n ≤ n * K
  | 0 => Nat.zero_le _
  | n + 1 => by
    have := q_bsum_le h n
    have := h n
    rw [Nat.add_mul]
    show q_bsum β n + β n ≤ _
    omega
theorem q_bsum_mono (β : Nat → Nat) {c n : Nat} (h : c ≤ n) : q_bsum β c ≤ q_bsum β n := by
  induction n with
  | zero => rw [show c = 0 by omega]; exact Nat.le_refl _
  | succ n ih =>
    by_cases e : c = n + 1
    · rw [e]; exact Nat.le_refl _
    · exact Nat.le_trans (ih (by omega)) (Nat.le_add_right _ _)
theorem q_bsum_in (β : Nat → Nat) {c n : Nat} (h : c < n) : β c ≤ q_bsum β n := by
  have := q_bsum_mono β (show c + 1 ≤ n by omega)
  have : q_bsum β (c + 1) = q_bsum β c + β c := rfl
  omega
def q_gets (O S C t : Nat) : Nat := if S + 10 * t ≤ O then min (10 * t) C else 0
def q_hmost (O S C k : Nat) : Nat := if S ≤ O then min (10 * min k ((O - S) / 10)) C else 0
theorem q_rest_iff (O S C k G : Nat) : (∀ t, t ≤ k → q_gets O S C t ≤ G) ↔ q_hmost O S C k ≤ G := by
  unfold q_gets q_hmost
  constructor
  · intro h
    by_cases c : S ≤ O
    · rw [if_pos c]
      have := h (min k ((O - S) / 10)) (by omega)
      rw [if_pos (by omega)] at this
      exact this
    · rw [if_neg c]
      omega
  · intro h t ht
    by_cases c : S + 10 * t ≤ O
    · rw [if_pos c]
      rw [if_pos (show S ≤ O by omega)] at h
      omega
    · rw [if_neg c]
      omega
def q_allb (P : Nat → Bool) : Nat → Nat → Bool
  | 0, _ => true
  | n + 1, j => if P j = true then q_allb P n (j + 1) else false
theorem q_allb_iff (P : Nat → Bool) : ∀ n j, q_allb P n j = true ↔ ∀ i, j ≤ i → i < j + n → P i = true
  | 0, j => ⟨fun _ i h1 h2 => absurd h2 (by omega), fun _ => rfl⟩
  | n + 1, j => by
    show (if P j = true then q_allb P n (j + 1) else false) = true ↔ _
    by_cases c : P j = true
    · rw [if_pos c, q_allb_iff P n (j + 1)]
      constructor
      · intro h i h1 h2
        by_cases e : i = j
        · rw [e]; exact c
        · exact h i (by omega) (by omega)
      · intro h i h1 h2
        exact h i (by omega) (by omega)
    · rw [if_neg c]
      exact ⟨fun h => (by cases h), fun h => absurd (h j (Nat.le_refl _) (by omega)) c⟩
/-- one heir would have no more by another bid -/
def q_hP (ψ : QF) (O k nh : Nat) (β : Nat → Nat) (h : Nat) : Bool := decide (q_hmost O (10 * q_bsum β nh - 10 * β h) (ψ 5 h).toNatClampNeg k ≤ q_gets O (10 * q_bsum β nh - 10 * β h) (ψ 5 h).toNatClampNeg (β h))
def q_had (ψ : QF) (O nh : Nat) (β : Nat → Nat) (h : Nat) : Nat := q_gets O (10 * q_bsum β nh - 10 * β h) (ψ 5 h).toNatClampNeg (β h)
def q_hdig (β : Nat → Nat) : Nat → Int32
  | 0 => 0
  | i + 1 => 10 * q_hdig β i + Int32.ofNat (β i)
def q_htog (ψ : QF) (O nh : Nat) (β : Nat → Nat) : Nat → Int32
  | 0 => 0
  | i + 1 => q_htog ψ O nh β i + Int32.ofNat (q_had ψ O nh β i)
def q_hr (ψ : QF) (O k nh : Nat) : Nat → Nat → Int32 → Int32 → Int32 → Int32 × Int32 × Int32
  | 0, _, R, D, T => (R, D, T)
  | n + 1, w, R, D, T => if q_allb (q_hP ψ O k nh (q_bid (k + 1) nh w)) nh 0 = true then q_hr ψ O k nh n (w + 1) (R + 1) (if R = 0 then q_hdig (q_bid (k + 1) nh w) nh else D) (if R = 0 then q_htog ψ O nh (q_bid (k + 1) nh w) nh else T) else q_hr ψ O k nh n (w + 1) R D T
theorem q_fw_claim {ψ : QF} (h : q_fw ψ) {v : Nat} (hv : v < (ψ 0 6).toNatClampNeg) : v < 4 ∧ ∃ x, x ≤ 99 ∧ 1 ≤ x ∧ ψ 5 v = Int32.ofNat x ∧ (ψ 5 v).toNatClampNeg = x := by
  obtain ⟨⟨nv, nc, nm, nh, e1, e2, e3, e4, b1, b2, b3, b4, f1, f2, f3, f4⟩, -⟩ := h
  rw [e4, qi_tn (by omega)] at hv
  obtain ⟨x, h1, h2, e⟩ := f4 v hv
  exact ⟨by omega, x, h1, h2, e, by rw [e, qi_tn (by omega)]⟩
section
variable {Z : AxS} {b m fa sf la sl bo sb N B : Nat} {ψ : QF} {l : QL} {r ρ : QR} {f f0 : Nat → Nat → Int32}
theorem LCl.bids (h : LCl Z b fa sf la sl bo sb) : axP Z b 17 = some (b + 151) ∧ axL Z (b + 151) = some (1, 4) := h.2.2.2.2.2.2.2.2.2.2.2.2.1
theorem qc_setBids_l {base w nh : Nat} (hb1 : 1 ≤ base) (hb : base ≤ 10) (hw : w ≤ 10000) (hnh : nh ≤ 4) (h0 : axL Z b = some (0, 9)) (hp : axP Z b 17 = some (b + 151) ∧ axL Z (b + 151) = some (1, 4)) : ∀ (c fu : Nat) (f : Nat → Nat → Int32), c ≤ nh → c < fu → (∀ h, c ≤ h → h < nh → f (b + 151) h = Int32.ofNat (q_bid base nh w h)) → ∃ f', F_X9_setBids_16 N fu b (Int32.ofNat base) (Int32.ofNat (w / base ^ (nh - c))) (Int32.ofNat (10 * (q_bsum (q_bid base nh w) nh - q_bsum (q_bid base nh w) c))) (Int32.ofNat c + (-1)) (axM Z f) = some (Int32.ofNat (10 * q_bsum (q_bid base nh w) nh), axM Z f') ∧ (∀ h, h < nh → f' (b + 151) h = Int32.ofNat (q_bid base nh w h)) ∧ ∀ x, x ≠ b + 151 → f' x = f x := by
  intro c
  induction c with
  | zero =>
    intro fu f hc hfu hs
    obtain ⟨fu, rfl⟩ : ∃ q, fu = q + 1 := ⟨fu - 1, by omega⟩
    show ∃ f', F_X9_setBids_16b N (F_X9_setBids_16 N fu) b (Int32.ofNat base) (Int32.ofNat (w / base ^ (nh - 0))) (Int32.ofNat (10 * (q_bsum (q_bid base nh w) nh - q_bsum (q_bid base nh w) 0))) (Int32.ofNat 0 + (-1)) (axM Z f) = _ ∧ _
    unfold F_X9_setBids_16b
    rw [if_pos (by decide)]
    exact ⟨f, rfl, fun h hh => hs h (by omega) hh, fun _ _ => rfl⟩
  | succ c ih =>
    intro fu f hc hfu hs
    obtain ⟨fu, rfl⟩ : ∃ q, fu = q + 1 := ⟨fu - 1, by omega⟩
    rw [qi_m1 (by omega), Nat.add_sub_cancel]
    show ∃ f', F_X9_setBids_16b N (F_X9_setBids_16 N fu) b (Int32.ofNat base) (Int32.ofNat (w / base ^ (nh - (c + 1)))) (Int32.ofNat (10 * (q_bsum (q_bid base nh w) nh - q_bsum (q_bid base nh w) (c + 1)))) (Int32.ofNat c) (axM Z f) = _ ∧ _
    unfold F_X9_setBids_16b
    have hwd : w / base ^ (nh - (c + 1)) ≤ w := Nat.div_le_self _ _
    have hne := qi_nz (show base < 2147483648 by omega) (by omega)
    have hmo := q_bsum_mono (q_bid base nh w) (show c + 1 ≤ nh by omega)
    have hsu : q_bsum (q_bid base nh w) (c + 1) = q_bsum (q_bid base nh w) c + q_bid base nh w c := rfl
    have hlt := q_bsum_le (β := q_bid base nh w) (K := 10) (fun i => Nat.le_trans (Nat.le_of_lt (Nat.mod_lt _ (by omega))) hb) nh
    have hdig : (w / base ^ (nh - (c + 1))) % base = q_bid base nh w c := by
      unfold q_bid
      rw [show nh - 1 - c = nh - (c + 1) by omega]
    have hdiv : w / base ^ (nh - (c + 1)) / base = w / base ^ (nh - c) := by
      rw [Nat.div_div_eq_div_mul, ← Nat.pow_succ, show (nh - (c + 1)).succ = nh - c by omega]
    rw [if_neg (qi_nn (by omega)), if_neg (show ¬ Int32.ofNat base ≤ 0 from qi_nge (j := 0) (by omega) (by omega)), m_gr h0 hp.1, m_ne hne, qi_modn (by omega) (by omega), hdig, m_putn N hp.2 (show c < 4 by omega) (by omega), axBV_s, m_gr h0 hp.1, m_atn N hp.2 (show c < 4 by omega) (by omega), ax2_k, axB_s, m_ne hne, qi_div (by omega) (by omega), hdiv, show (10 : Int32) * Int32.ofNat (q_bid base nh w c) = Int32.ofNat (10 * q_bid base nh w c) from qi_mul 10 _, qi_add, show 10 * (q_bsum (q_bid base nh w) nh - q_bsum (q_bid base nh w) (c + 1)) + 10 * q_bid base nh w c = 10 * (q_bsum (q_bid base nh w) nh - q_bsum (q_bid base nh w) c) by omega]
    obtain ⟨f', e, g1, g2⟩ := ih fu (ax2 f (b + 151) c (Int32.ofNat (q_bid base nh w c))) (by omega) (by omega) (fun h h1 h2 => by
      rw [ax2_a]
      by_cases e : h = c
      · rw [if_pos e, e]
      · rw [if_neg e]
        exact hs h (by omega) h2)
    exact ⟨f', e, g1, fun x hx => by rw [g2 x hx, ax2_n _ _ _ _ hx]⟩
/-- the bids lie there -/
def bidsC (f : Nat → Nat → Int32) (a nh : Nat) (β : Nat → Nat) : Prop := ∀ h, h < nh → f a h = Int32.ofNat (β h)
theorem q_bid_le {base nh w : Nat} (hb1 : 1 ≤ base) (h : Nat) : q_bid base nh w h + 1 ≤ base := Nat.mod_lt _ (by omega)
theorem qc_had {O nh : Nat} {β : Nat → Nat} (h : HC Z b fa sf la sl bo sb f ψ l r) (hO : r 0 = Int32.ofNat O) (hO2 : O ≤ 99999) (hnh : (ψ 0 6).toNatClampNeg = nh) (hβ : ∀ i, β i ≤ 9) (hs : bidsC f (b + 151) nh β) {i : Nat} (hi : i < nh) : F_X9_had N b (Int32.ofNat i) (Int32.ofNat (10 * q_bsum β nh)) (axM Z f) = some (Int32.ofNat (q_had ψ O nh β i), axM Z f) := by
  obtain ⟨hC, hF, hw, hl, hlw, hR, hok⟩ := h
  have h0 := hC.1.1
  have pf := hC.1.2.1
  have hfa := hC.2.1.1
  have p8 := hC.2.2.2.2.2.2.2.1.1
  have hst := hC.2.2.2.2.2.2.2.1.2
  obtain ⟨i4, x, x1, x2, ex, ex2⟩ := q_fw_claim hw (show i < (ψ 0 6).toNatClampNeg by omega)
  have eO : f (b + 31) 0 = Int32.ofNat O := by rw [← hO, ← hR]; rfl
  have hlt := q_bsum_le hβ nh
  have hin := q_bsum_in β hi
  have := hβ i
  have nh4 : nh ≤ 4 := by
    obtain ⟨n6, n64, en6, et6⟩ := (q_fw_n hw).2.2.2
    omega
  unfold F_X9_had
  simp only [m_gr h0 p8, m_gi hst.1, eO, m_gr h0 hC.bids.1, m_atn N hC.bids.2 i4 (by omega), hs i hi, axB_s, m_gr h0 pf, m_gr hfa.1 hfa.2.2.2.2.2.1, m_atn N hfa.2.2.2.2.2.2 i4 (by omega), rdF_5 hF (show i < (ψ 0 6).toNatClampNeg by omega), m_min]
  unfold q_had q_gets
  have hsum : 10 * q_bsum β nh - 10 * β i + 10 * β i = 10 * q_bsum β nh := by omega
  rw [hsum, ex2]
  by_cases c : 10 * q_bsum β nh ≤ O
  · rw [if_pos (qi_ge c (by omega)), if_pos c, ex, show (10 : Int32) * Int32.ofNat (β i) = Int32.ofNat (10 * β i) from qi_mul 10 _, q_minn (by omega) (by omega)]
  · rw [if_neg (qi_nge (by omega) (by omega)), if_neg c]
    rfl
theorem q_had_le (ψ : QF) (O nh : Nat) (β : Nat → Nat) (i : Nat) (hβ : ∀ i, β i ≤ 9) : q_had ψ O nh β i ≤ 90 := by
  unfold q_had q_gets
  have := hβ i
  split <;> omega
theorem q_hmost_le (O S C k : Nat) (hk : k ≤ 9) : q_hmost O S C k ≤ 90 := by
  unfold q_hmost
  split <;> omega
theorem qc_rests_l {O nh k : Nat} {β : Nat → Nat} (hk : k ≤ 9) (h : HC Z b fa sf la sl bo sb f ψ l r) (hO : r 0 = Int32.ofNat O) (hO2 : O ≤ 99999) (hnh : (ψ 0 6).toNatClampNeg = nh) (hβ : ∀ i, β i ≤ 9) (hs : bidsC f (b + 151) nh β) : ∀ (n i fu : Nat), i + n = nh → n < fu → F_X9_restsBy_2 N fu b (Int32.ofNat (10 * q_bsum β nh)) (Int32.ofNat k) (Int32.ofNat i) (axM Z f) = some (if q_allb (q_hP ψ O k nh β) n i = true then 1 else 0, axM Z f) := by
  have hC := h.1
  have hF := h.2.1
  have h0 := hC.1.1
  have pf := hC.1.2.1
  have hfa := hC.2.1.1
  have p8 := hC.2.2.2.2.2.2.2.1.1
  have hst := hC.2.2.2.2.2.2.2.1.2
  have eO : f (b + 31) 0 = Int32.ofNat O := by rw [← hO, ← h.2.2.2.2.2.1]; rfl
  obtain ⟨n6, n64, en6, et6⟩ := (q_fw_n h.2.2.1).2.2.2
  have e6 : f fa 6 = Int32.ofNat nh := by rw [← hnh, et6, ← en6]; exact rdF_0 hF (by omega)
  have hlt := q_bsum_le hβ nh
  intro n
  induction n with
  | zero =>
    intro i fu hi hfu
    obtain ⟨fu, rfl⟩ : ∃ q, fu = q + 1 := ⟨fu - 1, by omega⟩
    show F_X9_restsBy_2b N (F_X9_restsBy_2 N fu) b (Int32.ofNat (10 * q_bsum β nh)) (Int32.ofNat k) (Int32.ofNat i) (axM Z f) = _
    unfold F_X9_restsBy_2b
    rw [m_gr h0 pf, m_gi hfa.1, e6, if_pos (qi_ge (by omega) (by omega)), m_rz1]
    rfl
  | succ n ih =>
    intro i fu hi hfu
    obtain ⟨fu, rfl⟩ : ∃ q, fu = q + 1 := ⟨fu - 1, by omega⟩
    show F_X9_restsBy_2b N (F_X9_restsBy_2 N fu) b (Int32.ofNat (10 * q_bsum β nh)) (Int32.ofNat k) (Int32.ofNat i) (axM Z f) = _
    unfold F_X9_restsBy_2b F_X9_restsBy_57
    obtain ⟨i4, x, x1, x2, ex, ex2⟩ := q_fw_claim h.2.2.1 (show i < (ψ 0 6).toNatClampNeg by omega)
    have hin := q_bsum_in β (show i < nh by omega)
    have := hβ i
    have hh := qc_had (N := N) h hO hO2 hnh hβ hs (show i < nh by omega)
    have hl90 := q_had_le ψ O nh β i hβ
    simp only [m_gr h0 pf, m_gi hfa.1, e6, m_gr h0 p8, m_gi hst.1, eO, m_gr h0 hC.bids.1, m_atn N hC.bids.2 i4 (by omega), hs i (by omega), axB_s, m_gr hfa.1 hfa.2.2.2.2.2.1, m_atn N hfa.2.2.2.2.2.2 i4 (by omega), rdF_5 hF (show i < (ψ 0 6).toNatClampNeg by omega), m_min, m_is h0, hh, qi_s]
    rw [if_neg (qi_nge (by omega) (by omega)), show (10 : Int32) * Int32.ofNat (β i) = Int32.ofNat (10 * β i) from qi_mul 10 _, qi_sub (by omega)]
    have fin : ∀ M, M = q_hmost O (10 * q_bsum β nh - 10 * β i) x k → (if Int32.ofNat M ≤ Int32.ofNat (q_had ψ O nh β i) then F_X9_restsBy_2 N fu b (Int32.ofNat (10 * q_bsum β nh)) (Int32.ofNat k) (Int32.ofNat (i + 1)) (axM Z f) else ax_rz 0 (some (0, axM Z f))) = some (if q_allb (q_hP ψ O k nh β) (n + 1) i = true then 1 else 0, axM Z f) := by
      intro M hM
      have hM90 := q_hmost_le O (10 * q_bsum β nh - 10 * β i) x k hk
      show _ = some (if (if q_hP ψ O k nh β i = true then q_allb (q_hP ψ O k nh β) n (i + 1) else false) = true then 1 else 0, axM Z f)
      have hP : (q_hP ψ O k nh β i = true) = (M ≤ q_had ψ O nh β i) := by
        unfold q_hP q_had
        rw [decide_eq_true_eq, ex2, hM]
      by_cases c : M ≤ q_had ψ O nh β i
      · rw [if_pos (qi_ge c (by omega)), ih (i + 1) fu (by omega) (by omega)]
        rw [if_pos (show q_hP ψ O k nh β i = true by rw [hP]; exact c)]
      · rw [if_neg (qi_nge (by omega) (by omega)), m_rz0, if_neg (show ¬ q_hP ψ O k nh β i = true by rw [hP]; exact c)]
        rfl
    unfold q_hmost at fin
    by_cases c : 10 * q_bsum β nh - 10 * β i ≤ O
    · rw [qi_sub c, if_pos (show (0 : Int32) ≤ Int32.ofNat (O - (10 * q_bsum β nh - 10 * β i)) from qi_ge (i := 0) (by omega) (by omega)), m_ne (by decide), show Int32.ofNat (O - (10 * q_bsum β nh - 10 * β i)) / 10 = Int32.ofNat ((O - (10 * q_bsum β nh - 10 * β i)) / 10) from qi_div (j := 10) (by omega) (by omega), q_minn (by omega) (by omega), show (10 : Int32) * Int32.ofNat (min k ((O - (10 * q_bsum β nh - 10 * β i)) / 10)) = Int32.ofNat (10 * min k ((O - (10 * q_bsum β nh - 10 * β i)) / 10)) from qi_mul 10 _, ex, q_minn (by omega) (by omega)]
      exact fin _ (by rw [if_pos c])
    · rw [if_neg (qi_subn (by omega) (by omega)), ex, show (0 : Int32) = Int32.ofNat 0 from rfl, q_minn (by omega) (by omega)]
      exact fin _ (by rw [if_neg c]; omega)
theorem qc_hdig_l {nh : Nat} {β : Nat → Nat} (h : HC Z b fa sf la sl bo sb f ψ l r) (hnh : (ψ 0 6).toNatClampNeg = nh) (hs : bidsC f (b + 151) nh β) : ∀ (n i fu : Nat), i + n = nh → n < fu → F_X9_bidsAsDigits_4 N fu b (q_hdig β i) (Int32.ofNat i) (axM Z f) = some (q_hdig β nh, axM Z f) := by
  have hC := h.1
  have h0 := hC.1.1
  have pf := hC.1.2.1
  have hfa := hC.2.1.1
  obtain ⟨n6, n64, en6, et6⟩ := (q_fw_n h.2.2.1).2.2.2
  have e6 : f fa 6 = Int32.ofNat nh := by rw [← hnh, et6, ← en6]; exact rdF_0 h.2.1 (by omega)
  intro n
  induction n with
  | zero =>
    intro i fu hi hfu
    obtain ⟨fu, rfl⟩ : ∃ q, fu = q + 1 := ⟨fu - 1, by omega⟩
    show F_X9_bidsAsDigits_4b N (F_X9_bidsAsDigits_4 N fu) b (q_hdig β i) (Int32.ofNat i) (axM Z f) = _
    unfold F_X9_bidsAsDigits_4b
    rw [m_gr h0 pf, m_gi hfa.1, e6, if_pos (qi_ge (by omega) (by omega)), show i = nh by omega]
  | succ n ih =>
    intro i fu hi hfu
    obtain ⟨fu, rfl⟩ : ∃ q, fu = q + 1 := ⟨fu - 1, by omega⟩
    show F_X9_bidsAsDigits_4b N (F_X9_bidsAsDigits_4 N fu) b (q_hdig β i) (Int32.ofNat i) (axM Z f) = _
    unfold F_X9_bidsAsDigits_4b
    rw [m_gr h0 pf, m_gi hfa.1, e6, if_neg (qi_nge (by omega) (by omega)), m_gr h0 hC.bids.1, m_atn N hC.bids.2 (show i < 4 by omega) (by omega), hs i (by omega), axB_s, qi_s]
    exact ih (i + 1) fu (by omega) (by omega)
theorem qc_htog_l {O nh : Nat} {β : Nat → Nat} (h : HC Z b fa sf la sl bo sb f ψ l r) (hO : r 0 = Int32.ofNat O) (hO2 : O ≤ 99999) (hnh : (ψ 0 6).toNatClampNeg = nh) (hβ : ∀ i, β i ≤ 9) (hs : bidsC f (b + 151) nh β) : ∀ (n i fu : Nat), i + n = nh → n < fu → F_X9_hadTogether_4 N fu b (Int32.ofNat (10 * q_bsum β nh)) (q_htog ψ O nh β i) (Int32.ofNat i) (axM Z f) = some (q_htog ψ O nh β nh, axM Z f) := by
  have hC := h.1
  have h0 := hC.1.1
  have pf := hC.1.2.1
  have hfa := hC.2.1.1
  obtain ⟨n6, n64, en6, et6⟩ := (q_fw_n h.2.2.1).2.2.2
  have e6 : f fa 6 = Int32.ofNat nh := by rw [← hnh, et6, ← en6]; exact rdF_0 h.2.1 (by omega)
  intro n
  induction n with
  | zero =>
    intro i fu hi hfu
    obtain ⟨fu, rfl⟩ : ∃ q, fu = q + 1 := ⟨fu - 1, by omega⟩
    show F_X9_hadTogether_4b N (F_X9_hadTogether_4 N fu) b _ (q_htog ψ O nh β i) (Int32.ofNat i) (axM Z f) = _
    unfold F_X9_hadTogether_4b
    rw [m_gr h0 pf, m_gi hfa.1, e6, if_pos (qi_ge (by omega) (by omega)), show i = nh by omega]
  | succ n ih =>
    intro i fu hi hfu
    obtain ⟨fu, rfl⟩ : ∃ q, fu = q + 1 := ⟨fu - 1, by omega⟩
    show F_X9_hadTogether_4b N (F_X9_hadTogether_4 N fu) b _ (q_htog ψ O nh β i) (Int32.ofNat i) (axM Z f) = _
    unfold F_X9_hadTogether_4b
    rw [m_gr h0 pf, m_gi hfa.1, e6, if_neg (qi_nge (by omega) (by omega)), m_is h0, qc_had h hO hO2 hnh hβ hs (by omega), axB_s, qi_s]
    exact ih (i + 1) fu (by omega) (by omega)
theorem qc_heirs_l (hN : 200 < N) {O nh k W : Nat} (hk : k ≤ 9) (hO : r 0 = Int32.ofNat O) (hO2 : O ≤ 99999) (hnh : (ψ 0 6).toNatClampNeg = nh) (hn4 : nh ≤ 4) (hW : W ≤ 10000) (v : Int32) : ∀ (n w fu : Nat) (f : Nat → Nat → Int32) (R D T : Int32), w + n = W → n < fu → HC Z b fa sf la sl bo sb f ψ l r → CQz Z b f (F_X9_heirs_55 N fu b (Int32.ofNat k) v (Int32.ofNat W) R D T (Int32.ofNat w) (axM Z f)) (q_spv (q_hr ψ O k nh n w R D T) v) := by
  intro n
  induction n with
  | zero =>
    intro w fu f R D T hj hfu h
    obtain ⟨fu, rfl⟩ : ∃ q, fu = q + 1 := ⟨fu - 1, by omega⟩
    show CQz Z b f (F_X9_heirs_55b N (F_X9_heirs_55 N fu) b (Int32.ofNat k) v (Int32.ofNat W) R D T (Int32.ofNat w) (axM Z f)) _
    unfold F_X9_heirs_55b q_spv q_hr
    rw [if_pos (qi_ge (by omega) (by omega))]
    refine CQz.mk0 ?_
    by_cases w0 : v = 0
    · rw [if_pos w0, if_pos w0]
    rw [if_neg w0, if_neg w0]
    by_cases w1 : v = 1
    · rw [if_pos w1, if_pos w1]
    rw [if_neg w1, if_neg w1]
  | succ n ih =>
    intro w fu f R D T hj hfu h
    obtain ⟨fu, rfl⟩ : ∃ q, fu = q + 1 := ⟨fu - 1, by omega⟩
    show CQz Z b f (F_X9_heirs_55b N (F_X9_heirs_55 N fu) b (Int32.ofNat k) v (Int32.ofNat W) R D T (Int32.ofNat w) (axM Z f)) _
    unfold F_X9_heirs_55b F_X9_heirs_104 F_X9_heirs_107 F_X9_setBids F_X9_restsBy F_X9_bidsAsDigits F_X9_hadTogether
    have hC := h.1
    have h0 := hC.1.1
    have pf := hC.1.2.1
    have hfa := hC.2.1.1
    obtain ⟨n6, n64, en6, et6⟩ := (q_fw_n h.2.2.1).2.2.2
    have e6 : f fa 6 = Int32.ofNat nh := by rw [← hnh, et6, ← en6]; exact rdF_0 h.2.1 (by omega)
    have hβ : ∀ i, q_bid (k + 1) nh w i ≤ 9 := fun i => by
      have := q_bid_le (base := k + 1) (nh := nh) (w := w) (by omega) i
      omega
    obtain ⟨f1, e1, s1, fr1⟩ := qc_setBids_l (N := N) (base := k + 1) (w := w) (by omega) (by omega) (by omega) hn4 h0 hC.bids nh N f (Nat.le_refl _) (by omega) (fun i h1 h2 => absurd h2 (by omega))
    rw [Nat.sub_self, Nat.pow_zero, Nat.div_one, Nat.sub_self, ← Int32.sub_eq_add_neg] at e1
    have fr1' : ∀ x, ¬ scC b x → f1 x = f x := fun x hx => fr1 x (by unfold scC at hx; omega)
    have hr := qc_rests_l (N := N) hk (h.sc fr1') hO hO2 hnh hβ s1 nh 0 N (by omega) (by omega)
    rw [if_neg (qi_nge (by omega) (by omega)), m_is h0, m_gr h0 pf, m_gi hfa.1, e6, qi_s, show F_X9_setBids_16 N N b (Int32.ofNat (k + 1)) (Int32.ofNat w) 0 (Int32.ofNat nh - 1) (axM Z f) = _ from e1, axB_s, m_is h0, show F_X9_restsBy_2 N N b (Int32.ofNat (10 * q_bsum (q_bid (k + 1) nh w) nh)) (Int32.ofNat k) 0 (axM Z f1) = _ from hr, axB_s]
    have go : ∀ R' D' T', CQz Z b f (F_X9_heirs_55 N fu b (Int32.ofNat k) v (Int32.ofNat W) R' D' T' (Int32.ofNat w + 1) (axM Z f1)) (q_spv (q_hr ψ O k nh n (w + 1) R' D' T') v) := fun R' D' T' => by
      rw [qi_s]
      obtain ⟨f2, e2, fr2⟩ := ih (w + 1) fu f1 R' D' T' (by omega) (by omega) (h.sc fr1')
      exact ⟨f2, e2, fun x hx => by rw [fr2 x hx, fr1' x hx]⟩
    show CQz Z b f _ (q_spv (if q_allb (q_hP ψ O k nh (q_bid (k + 1) nh w)) nh 0 = true then q_hr ψ O k nh n (w + 1) (R + 1) (if R = 0 then q_hdig (q_bid (k + 1) nh w) nh else D) (if R = 0 then q_htog ψ O nh (q_bid (k + 1) nh w) nh else T) else q_hr ψ O k nh n (w + 1) R D T) v)
    by_cases c : q_allb (q_hP ψ O k nh (q_bid (k + 1) nh w)) nh 0 = true
    · simp only [if_pos c]
      rw [if_neg (show ¬ (1 : Int32) = 0 by decide)]
      by_cases cR : R = 0
      · have hd := qc_hdig_l (N := N) (h.sc fr1') hnh s1 nh 0 N (by omega) (by omega)
        have ht := qc_htog_l (N := N) (h.sc fr1') hO hO2 hnh hβ s1 nh 0 N (by omega) (by omega)
        simp only [if_pos cR]
        rw [m_is h0, show F_X9_bidsAsDigits_4 N N b 0 0 (axM Z f1) = _ from hd, axB_s, m_is h0, show F_X9_hadTogether_4 N N b (Int32.ofNat (10 * q_bsum (q_bid (k + 1) nh w) nh)) 0 0 (axM Z f1) = _ from ht, axB_s]
        exact go _ _ _
      · simp only [if_neg cR]
        exact go _ _ _
    · simp only [if_neg c]
      rw [if_pos trivial]
      exact go _ _ _
def q_heirc (k w : Int32) : Prop := (0 ≤ k ∧ k ≤ 9) ∧ (0 ≤ w ∧ w ≤ 2)
def q_heirv (ψ : QF) (r : QR) (k w : Int32) : Int32 := q_spv (q_hr ψ (r 0).toNatClampNeg k.toNatClampNeg (ψ 0 6).toNatClampNeg ((k.toNatClampNeg + 1) ^ (ψ 0 6).toNatClampNeg) 0 0 (-1) 0) w
theorem q_p10 {k nh : Nat} (hk : k ≤ 9) (hn : nh ≤ 4) : (k + 1) ^ nh ≤ 10000 := Nat.le_trans (Nat.pow_le_pow_left (show k + 1 ≤ 10 by omega) nh) (Nat.le_trans (Nat.pow_le_pow_right (by omega) hn) (by decide))
theorem qc_heirs (hN : 20000 < N) (h : HC Z b fa sf la sl bo sb f ψ l r) (k w : Int32) : (q_heirc k w → CQz Z b f (F_X9_heirs N b k w (axM Z f)) (q_heirv ψ r k w)) ∧ (¬ q_heirc k w → CTz Z b f (F_X9_heirs N b k w (axM Z f)) q_iae 15) := by
  have h0 := h.1.1.1
  have pf := h.1.1.2.1
  have hfa := h.1.2.1.1
  unfold F_X9_heirs F_X9_heirs_24 F_X9_heirs_25
  simp only [qc_needT h0, qc_needO h0, q_rg rfl]
  refine ⟨fun ⟨c1, c2⟩ => ?_, fun c => ?_⟩
  · obtain ⟨n6, n64, en6, et6⟩ := (q_fw_n h.2.2.1).2.2.2
    have e6 : f fa 6 = Int32.ofNat n6 := by rw [← en6]; exact rdF_0 h.2.1 (by omega)
    obtain ⟨kk, hk, rfl⟩ := q_nn c1.1 (show k ≤ Int32.ofNat 9 from c1.2) (by omega)
    obtain ⟨O, hO, eO⟩ := h.2.2.2.2.2.2.2.2.2.2.1
    have hp := q_p10 hk n64
    rw [if_pos c1, if_pos c2, m_gr h0 pf, m_gi hfa.1, e6, qi_s, m_power (by omega) (by omega) (by omega), axB_s, Int64.toInt32_ofNat']
    unfold q_heirv
    rw [eO, et6, qi_tn (by omega), qi_tn (by omega)]
    exact qc_heirs_l (by omega) hk eO hO et6 n64 hp w ((kk + 1) ^ n6) 0 N f 0 (-1) 0 (by omega) (by omega) h
  · refine CTz.mk ?_
    by_cases c1 : 0 ≤ k ∧ k ≤ 9
    · rw [if_pos c1, if_neg (fun z => c ⟨c1, z⟩)]
    · rw [if_neg c1]
-- the model
theorem HM.bids (h : LMo Z m) : axP Z m 46 = some (m + 530) ∧ axL Z (m + 530) = some (1, 4) := ⟨h.2.1 46 530 rfl, h.2.2.1 530 _ rfl⟩
theorem HM.heirs (h : HM Z m f ψ l r) : axP Z m 12 = some (m + 4) ∧ axL Z (m + 4) = some (1, 7) ∧ f (m + 4) 3 = ψ 0 6 := ⟨h.1.2.1 12 4 rfl, h.1.2.2.1 4 _ rfl, rdG_0 h.2.1 (show 6 < 7 by omega)⟩
theorem qm_but_l {nh : Nat} {β : Nat → Nat} (h : HM Z m f ψ l r) (hnh : (ψ 0 6).toNatClampNeg = nh) (hβ : ∀ i, β i ≤ 9) (hs : bidsC f (m + 530) nh β) {i : Nat} (hi : i < nh) : ∀ (n j fu : Nat), j + n = nh → n < fu → F_X10_bidsBut_4 N fu m (Int32.ofNat i) (Int32.ofNat (10 * q_bsum β j - (if i < j then 10 * β i else 0))) (Int32.ofNat j) (axM Z f) = some (Int32.ofNat (10 * q_bsum β nh - 10 * β i), axM Z f) := by
  have h0 := h.1.1
  obtain ⟨p12, s4, e6⟩ := h.heirs
  obtain ⟨n6, n64, en6, et6⟩ := (q_fw_n h.2.2.1).2.2.2
  rw [en6, ← et6, hnh] at e6
  intro n
  induction n with
  | zero =>
    intro j fu hj hfu
    obtain ⟨fu, rfl⟩ : ∃ q, fu = q + 1 := ⟨fu - 1, by omega⟩
    show F_X10_bidsBut_4b N (F_X10_bidsBut_4 N fu) m (Int32.ofNat i) _ (Int32.ofNat j) (axM Z f) = _
    unfold F_X10_bidsBut_4b
    rw [m_gr h0 p12, m_ld7_3 s4, e6, if_pos (qi_ge (by omega) (by omega)), show j = nh by omega, if_pos hi]
  | succ n ih =>
    intro j fu hj hfu
    obtain ⟨fu, rfl⟩ : ∃ q, fu = q + 1 := ⟨fu - 1, by omega⟩
    show F_X10_bidsBut_4b N (F_X10_bidsBut_4 N fu) m (Int32.ofNat i) _ (Int32.ofNat j) (axM Z f) = _
    unfold F_X10_bidsBut_4b F_X10_bidsBut_33
    have ih := ih (j + 1) fu (by omega) (by omega)
    have hsu : q_bsum β (j + 1) = q_bsum β j + β j := rfl
    have hin : i < j → β i ≤ q_bsum β j := q_bsum_in β
    rw [m_gr h0 p12, m_ld7_3 s4, e6, if_neg (qi_nge (by omega) (by omega)), qi_s]
    by_cases c : j = i
    · subst c
      rw [if_pos rfl, Int32.add_zero, if_neg (show ¬ j < j by omega)]
      rw [if_pos (show j < j + 1 by omega), hsu, show 10 * (q_bsum β j + β j) - 10 * β j = 10 * q_bsum β j - 0 by omega] at ih
      exact ih
    · rw [if_neg (qi_ne c (by omega) (by omega)), m_gr h0 (HM.bids h.1).1, m_ldn (HM.bids h.1).2 (show j < 4 by omega) (by omega), hs j (by omega), show (10 : Int32) * Int32.ofNat (β j) = Int32.ofNat (10 * β j) from qi_mul 10 _, qi_add]
      by_cases c2 : i < j
      · rw [if_pos c2]
        have := hin c2
        rw [if_pos (show i < j + 1 by omega), hsu, show 10 * (q_bsum β j + β j) - 10 * β i = 10 * q_bsum β j - 10 * β i + 10 * β j by omega] at ih
        exact ih
      · rw [if_neg c2]
        rw [if_neg (show ¬ i < j + 1 by omega), hsu, show 10 * (q_bsum β j + β j) - 0 = 10 * q_bsum β j - 0 + 10 * β j by omega] at ih
        exact ih
theorem qm_gets {O nh : Nat} {β : Nat → Nat} (hN : 200 < N) (h : HM Z m f ψ l r) (hO : r 0 = Int32.ofNat O) (hO2 : O ≤ 99999) (hnh : (ψ 0 6).toNatClampNeg = nh) (hβ : ∀ i, β i ≤ 9) (hs : bidsC f (m + 530) nh β) {i t : Nat} (hi : i < nh) (ht : t ≤ 9) : F_X10_getsBy N m (Int32.ofNat i) (Int32.ofNat t) (axM Z f) = some (Int32.ofNat (q_gets O (10 * q_bsum β nh - 10 * β i) (ψ 5 i).toNatClampNeg t), axM Z f) := by
  have h0 := h.1.1
  have s4 := h.s441
  obtain ⟨g1, g2, g3⟩ := LMo_of h.1
  obtain ⟨g4, g5⟩ := g3 3 (by omega)
  obtain ⟨i4, x, x1, x2, ex, ex2⟩ := q_fw_claim h.2.2.1 (show i < (ψ 0 6).toNatClampNeg by omega)
  have eO : f (m + 440) 0 = Int32.ofNat O := by rw [rdM_k f (m + 440) (by omega), h.2.2.2.2.2.1, hO]
  have ec : f (m + 13 + 3) i = ψ 5 i := rdG_5 h.2.1 (by omega)
  have hlt := q_bsum_le hβ nh
  have nh4 : nh ≤ 4 := by
    obtain ⟨n6, n64, en6, et6⟩ := (q_fw_n h.2.2.1).2.2.2
    omega
  have hb := qm_but_l (N := N) h hnh hβ hs hi nh 0 N (by omega) (by omega)
  unfold F_X10_getsBy F_X10_bidsBut
  rw [m_is h0, show F_X10_bidsBut_4 N N m (Int32.ofNat i) 0 0 (axM Z f) = _ from hb, axB_s, m_gr h0 s4.2.2.1, m_ld29_0 s4.2.2.2, eO, show (10 : Int32) * Int32.ofNat t = Int32.ofNat (10 * t) from qi_mul 10 _, qi_add]
  unfold q_gets
  by_cases c : 10 * q_bsum β nh - 10 * β i + 10 * t ≤ O
  · rw [if_pos (qi_ge c (by omega)), if_pos c, m_gr h0 g1, m_ldr_3 g2 (by omega) (by omega) g4, m_ldn g5 (show i < 8 by omega) (by omega), ec, ex, m_less, axB_s, q_minn (by omega) (by omega), qi_tn (by omega)]
  · rw [if_neg (qi_nge (by omega) (by omega)), if_neg c]
    rfl
theorem qm_rest14 {O nh k : Nat} {β : Nat → Nat} (hN : 200 < N) (hk : k ≤ 9) (h : HM Z m f ψ l r) (hO : r 0 = Int32.ofNat O) (hO2 : O ≤ 99999) (hnh : (ψ 0 6).toNatClampNeg = nh) (hβ : ∀ i, β i ≤ 9) (hs : bidsC f (m + 530) nh β) {i : Nat} (hi : i < nh) (K : Nat → Int32 → Int32 → AxS → Option (Int32 × AxS)) : ∀ (n t fu : Nat), t + n = k + 1 → n < fu → F_X10_isRest_14 N K fu m (Int32.ofNat k) (Int32.ofNat i) (Int32.ofNat t) (axM Z f) = if q_allb (fun t => decide (q_gets O (10 * q_bsum β nh - 10 * β i) (ψ 5 i).toNatClampNeg t ≤ q_had ψ O nh β i)) n t = true then K m (Int32.ofNat k) (Int32.ofNat i + 1) (axM Z f) else some (0, axM Z f) := by
  have h0 := h.1.1
  have hg90 : ∀ t, t ≤ 9 → q_gets O (10 * q_bsum β nh - 10 * β i) (ψ 5 i).toNatClampNeg t ≤ 90 := fun t ht => by
    unfold q_gets
    split <;> omega
  intro n
  induction n with
  | zero =>
    intro t fu ht hfu
    obtain ⟨fu, rfl⟩ : ∃ q, fu = q + 1 := ⟨fu - 1, by omega⟩
    show F_X10_isRest_14b N K (F_X10_isRest_14 N K fu) m (Int32.ofNat k) (Int32.ofNat i) (Int32.ofNat t) (axM Z f) = _
    unfold F_X10_isRest_14b
    rw [if_pos (qi_gt (by omega) (by omega))]
    rfl
  | succ n ih =>
    intro t fu ht hfu
    obtain ⟨fu, rfl⟩ : ∃ q, fu = q + 1 := ⟨fu - 1, by omega⟩
    show F_X10_isRest_14b N K (F_X10_isRest_14 N K fu) m (Int32.ofNat k) (Int32.ofNat i) (Int32.ofNat t) (axM Z f) = _
    unfold F_X10_isRest_14b
    have hl90 := q_had_le ψ O nh β i hβ
    have := hg90 t (by omega)
    have i4 : i < 4 := (q_fw_claim h.2.2.1 (show i < (ψ 0 6).toNatClampNeg by omega)).1
    rw [if_neg (qi_ngt (by omega) (by omega)), m_is h0, qm_gets hN h hO hO2 hnh hβ hs hi (by omega), axB_s, m_gr h0 (HM.bids h.1).1, m_ldn (HM.bids h.1).2 i4 (by omega), hs i hi, m_is h0, qm_gets hN h hO hO2 hnh hβ hs hi (hβ i), axB_s]
    show (if Int32.ofNat _ ≤ Int32.ofNat (q_had ψ O nh β i) then _ else _) = (if (if decide (q_gets O (10 * q_bsum β nh - 10 * β i) (ψ 5 i).toNatClampNeg t ≤ q_had ψ O nh β i) = true then q_allb _ n (t + 1) else false) = true then _ else _)
    by_cases c : q_gets O (10 * q_bsum β nh - 10 * β i) (ψ 5 i).toNatClampNeg t ≤ q_had ψ O nh β i
    · rw [if_pos (qi_ge c (by omega)), qi_s, ih (t + 1) fu (by omega) (by omega), if_pos (decide_eq_true c)]
    · rw [if_neg (qi_nge (by omega) (by omega)), m_rz0, if_neg (show ¬ decide (q_gets O (10 * q_bsum β nh - 10 * β i) (ψ 5 i).toNatClampNeg t ≤ q_had ψ O nh β i) = true from fun z => c (of_decide_eq_true z))]
      rfl
theorem qm_rest_l {O nh k : Nat} {β : Nat → Nat} (hN : 200 < N) (hk : k ≤ 9) (h : HM Z m f ψ l r) (hO : r 0 = Int32.ofNat O) (hO2 : O ≤ 99999) (hnh : (ψ 0 6).toNatClampNeg = nh) (hβ : ∀ i, β i ≤ 9) (hs : bidsC f (m + 530) nh β) : ∀ (n i fu : Nat), i + n = nh → n < fu → F_X10_isRest_2 N fu m (Int32.ofNat k) (Int32.ofNat i) (axM Z f) = some (if q_allb (q_hP ψ O k nh β) n i = true then 1 else 0, axM Z f) := by
  have h0 := h.1.1
  obtain ⟨p12, s4, e6⟩ := h.heirs
  obtain ⟨n6, n64, en6, et6⟩ := (q_fw_n h.2.2.1).2.2.2
  rw [en6, ← et6, hnh] at e6
  intro n
  induction n with
  | zero =>
    intro i fu hj hfu
    obtain ⟨fu, rfl⟩ : ∃ q, fu = q + 1 := ⟨fu - 1, by omega⟩
    show F_X10_isRest_2b N (F_X10_isRest_2 N fu) m (Int32.ofNat k) (Int32.ofNat i) (axM Z f) = _
    unfold F_X10_isRest_2b
    rw [m_gr h0 p12, m_ld7_3 s4, e6, if_pos (qi_ge (by omega) (by omega)), m_rz1]
    rfl
  | succ n ih =>
    intro i fu hj hfu
    obtain ⟨fu, rfl⟩ : ∃ q, fu = q + 1 := ⟨fu - 1, by omega⟩
    show F_X10_isRest_2b N (F_X10_isRest_2 N fu) m (Int32.ofNat k) (Int32.ofNat i) (axM Z f) = _
    unfold F_X10_isRest_2b
    have h14 := qm_rest14 (N := N) hN hk h hO hO2 hnh hβ hs (show i < nh by omega) (F_X10_isRest_2 N fu) (k + 1) 0 N (by omega) (by omega)
    rw [m_gr h0 p12, m_ld7_3 s4, e6, if_neg (qi_nge (by omega) (by omega)), show F_X10_isRest_14 N (F_X10_isRest_2 N fu) N m (Int32.ofNat k) (Int32.ofNat i) 0 (axM Z f) = _ from h14]
    have hP : (q_allb (fun t => decide (q_gets O (10 * q_bsum β nh - 10 * β i) (ψ 5 i).toNatClampNeg t ≤ q_had ψ O nh β i)) (k + 1) 0 = true) = (q_hP ψ O k nh β i = true) := by
      refine propext ?_
      rw [q_allb_iff]
      unfold q_hP
      rw [decide_eq_true_eq, ← q_rest_iff]
      exact ⟨fun z t ht => of_decide_eq_true (z t (by omega) (by omega)), fun z t _ ht => decide_eq_true (z t (by omega))⟩
    show _ = some (if (if q_hP ψ O k nh β i = true then q_allb (q_hP ψ O k nh β) n (i + 1) else false) = true then 1 else 0, axM Z f)
    by_cases c : q_hP ψ O k nh β i = true
    · rw [if_pos (show q_allb _ (k + 1) 0 = true by rw [hP]; exact c), qi_s, ih (i + 1) fu (by omega) (by omega), if_pos c]
    · rw [if_neg (show ¬ q_allb _ (k + 1) 0 = true by rw [hP]; exact c), if_neg c]
      rfl
theorem qm_heirs152 {O nh k : Nat} {β : Nat → Nat} (hN : 200 < N) (hk : k ≤ 9) (h : HM Z m f ψ l r) (hO : r 0 = Int32.ofNat O) (hO2 : O ≤ 99999) (hnh : (ψ 0 6).toNatClampNeg = nh) (hβ : ∀ i, β i ≤ 9) (hs : bidsC f (m + 530) nh β) (K : Nat → Int32 → Int32 → Int32 → Int32 → Int32 → Int32 → Int32 → AxS → Option (Int32 × AxS)) (v1 v2 v3 R D T w : Int32) : ∀ (n i fu : Nat), i + n = nh → n < fu → F_X10_heirs_152 N K fu m v1 v2 v3 R D T w (q_hdig β i) (q_htog ψ O nh β i) (Int32.ofNat i) (axM Z f) = K m v1 v2 v3 (R + 1) (if R = 0 then q_hdig β nh else D) (if R = 0 then q_htog ψ O nh β nh else T) (w + 1) (axM Z f) := by
  have h0 := h.1.1
  obtain ⟨p12, s4, e6⟩ := h.heirs
  obtain ⟨n6, n64, en6, et6⟩ := (q_fw_n h.2.2.1).2.2.2
  rw [en6, ← et6, hnh] at e6
  intro n
  induction n with
  | zero =>
    intro i fu hj hfu
    obtain ⟨fu, rfl⟩ : ∃ q, fu = q + 1 := ⟨fu - 1, by omega⟩
    show F_X10_heirs_152b N K (F_X10_heirs_152 N K fu) m v1 v2 v3 R D T w (q_hdig β i) (q_htog ψ O nh β i) (Int32.ofNat i) (axM Z f) = _
    unfold F_X10_heirs_152b F_X10_heirs_214 F_X10_heirs_228 F_X10_heirs_233
    rw [m_gr h0 p12, m_ld7_3 s4, e6, if_pos (qi_ge (by omega) (by omega)), show i = nh by omega]
    by_cases c : R = 0
    · simp only [if_pos c]
    · simp only [if_neg c]
  | succ n ih =>
    intro i fu hj hfu
    obtain ⟨fu, rfl⟩ : ∃ q, fu = q + 1 := ⟨fu - 1, by omega⟩
    show F_X10_heirs_152b N K (F_X10_heirs_152 N K fu) m v1 v2 v3 R D T w (q_hdig β i) (q_htog ψ O nh β i) (Int32.ofNat i) (axM Z f) = _
    unfold F_X10_heirs_152b
    have i4 : i < 4 := (q_fw_claim h.2.2.1 (show i < (ψ 0 6).toNatClampNeg by omega)).1
    rw [m_gr h0 p12, m_ld7_3 s4, e6, if_neg (qi_nge (by omega) (by omega)), m_gr h0 (HM.bids h.1).1, m_ldn (HM.bids h.1).2 i4 (by omega), m_gr h0 (HM.bids h.1).1, m_ldn (HM.bids h.1).2 i4 (by omega), hs i (by omega), m_is h0, qm_gets hN h hO hO2 hnh hβ hs (by omega) (hβ i), axB_s, qi_s]
    exact ih (i + 1) fu (by omega) (by omega)
theorem qm_heirs106 {O nh k w : Nat} (hN : 200 < N) (hk : k ≤ 9) (hw : w ≤ 10000) (hO : r 0 = Int32.ofNat O) (hO2 : O ≤ 99999) (hnh : (ψ 0 6).toNatClampNeg = nh) (hn4 : nh ≤ 4) (K : Nat → Int32 → Int32 → Int32 → Int32 → Int32 → Int32 → Int32 → AxS → Option (Int32 × AxS)) (v2 v3 R D T w7 : Int32) : ∀ (c fu : Nat) (f : Nat → Nat → Int32), c ≤ nh → c < fu → HM Z m f ψ l r → (∀ h, c ≤ h → h < nh → f (m + 530) h = Int32.ofNat (q_bid (k + 1) nh w h)) → ∃ f', F_X10_heirs_106 N K fu m (Int32.ofNat k) v2 v3 R D T w7 (Int32.ofNat (w / (k + 1) ^ (nh - c))) 0 0 (Int32.ofNat c + (-1)) (axM Z f) = (if q_allb (q_hP ψ O k nh (q_bid (k + 1) nh w)) nh 0 = true then K m (Int32.ofNat k) v2 v3 (R + 1) (if R = 0 then q_hdig (q_bid (k + 1) nh w) nh else D) (if R = 0 then q_htog ψ O nh (q_bid (k + 1) nh w) nh else T) (w7 + 1) (axM Z f') else K m (Int32.ofNat k) v2 v3 R D T (w7 + 1) (axM Z f')) ∧ ∀ x, ¬ scM m x → f' x = f x := by
  have hβ : ∀ i, q_bid (k + 1) nh w i ≤ 9 := fun i => by
    have := q_bid_le (base := k + 1) (nh := nh) (w := w) (by omega) i
    omega
  intro c
  induction c with
  | zero =>
    intro fu f hc hfu h hs
    obtain ⟨fu, rfl⟩ : ∃ q, fu = q + 1 := ⟨fu - 1, by omega⟩
    show ∃ f', F_X10_heirs_106b N K (F_X10_heirs_106 N K fu) m (Int32.ofNat k) v2 v3 R D T w7 (Int32.ofNat (w / (k + 1) ^ (nh - 0))) 0 0 (Int32.ofNat 0 + (-1)) (axM Z f) = _ ∧ _
    have h0 := h.1.1
    unfold F_X10_heirs_106b F_X10_isRest F_X10_heirs_233
    have hr := qm_rest_l (N := N) hN hk h hO hO2 hnh hβ (fun i hi => hs i (by omega) hi) nh 0 N (by omega) (by omega)
    rw [if_pos (by decide), m_is h0, show F_X10_isRest_2 N N m (Int32.ofNat k) 0 (axM Z f) = _ from hr, axB_s]
    refine ⟨f, ?_, fun _ _ => rfl⟩
    by_cases c : q_allb (q_hP ψ O k nh (q_bid (k + 1) nh w)) nh 0 = true
    · have h152 := qm_heirs152 (N := N) hN hk h hO hO2 hnh hβ (fun i hi => hs i (by omega) hi) K (Int32.ofNat k) v2 v3 R D T w7 nh 0 N (by omega) (by omega)
      simp only [if_pos c]
      rw [if_neg (show ¬ (1 : Int32) = 0 by decide)]
      exact h152
    · simp only [if_neg c]
      rw [if_pos trivial]
  | succ c ih =>
    intro fu f hc hfu h hs
    obtain ⟨fu, rfl⟩ : ∃ q, fu = q + 1 := ⟨fu - 1, by omega⟩
    rw [qi_m1 (by omega), Nat.add_sub_cancel]
    show ∃ f', F_X10_heirs_106b N K (F_X10_heirs_106 N K fu) m (Int32.ofNat k) v2 v3 R D T w7 (Int32.ofNat (w / (k + 1) ^ (nh - (c + 1)))) 0 0 (Int32.ofNat c) (axM Z f) = _ ∧ _
    unfold F_X10_heirs_106b
    have h0 := h.1.1
    have hwd : w / (k + 1) ^ (nh - (c + 1)) ≤ w := Nat.div_le_self _ _
    have hne := qi_nz (show k + 1 < 2147483648 by omega) (by omega)
    have hdig : (w / (k + 1) ^ (nh - (c + 1))) % (k + 1) = q_bid (k + 1) nh w c := by
      unfold q_bid
      rw [show nh - 1 - c = nh - (c + 1) by omega]
    have hdiv : w / (k + 1) ^ (nh - (c + 1)) / (k + 1) = w / (k + 1) ^ (nh - c) := by
      rw [Nat.div_div_eq_div_mul, ← Nat.pow_succ, show (nh - (c + 1)).succ = nh - c by omega]
    rw [if_neg (qi_nn (by omega)), m_gr h0 (HM.bids h.1).1, qi_s, m_ne hne, qi_modn (by omega) (by omega), hdig, m_stn (HM.bids h.1).2 (show c < 4 by omega) (by omega), m_ne hne, qi_div (by omega) (by omega), hdiv]
    have F1 : ∀ x, ¬ scM m x → ax2 f (m + 530) c (Int32.ofNat (q_bid (k + 1) nh w c)) x = f x := fun x hx => ax2_n _ _ _ _ (by unfold scM at hx; omega)
    obtain ⟨f', e, g2⟩ := ih fu (ax2 f (m + 530) c (Int32.ofNat (q_bid (k + 1) nh w c))) (by omega) (by omega) (h.sc F1) (fun h h1 h2 => by
      rw [ax2_a]
      by_cases e : h = c
      · rw [if_pos e, e]
      · rw [if_neg e]
        exact hs h (by omega) h2)
    exact ⟨f', e, fun x hx => by rw [g2 x hx, F1 x hx]⟩
theorem qm_heirs80 (hN : 200 < N) {O nh k W : Nat} (hk : k ≤ 9) (hO : r 0 = Int32.ofNat O) (hO2 : O ≤ 99999) (hnh : (ψ 0 6).toNatClampNeg = nh) (hn4 : nh ≤ 4) (hW : W ≤ 10000) (v : Int32) : ∀ (n w fu : Nat) (f : Nat → Nat → Int32) (R D T : Int32), w + n = W → n < fu → HM Z m f ψ l r → ∃ f', F_X10_heirs_80 N fu m (Int32.ofNat k) v (Int32.ofNat W) R D T (Int32.ofNat w) (axM Z f) = some (q_spv (q_hr ψ O k nh n w R D T) v, axM Z f') ∧ ∀ x, ¬ scM m x → f' x = f x := by
  intro n
  induction n with
  | zero =>
    intro w fu f R D T hj hfu h
    obtain ⟨fu, rfl⟩ : ∃ q, fu = q + 1 := ⟨fu - 1, by omega⟩
    show ∃ f', F_X10_heirs_80b N (F_X10_heirs_80 N fu) m (Int32.ofNat k) v (Int32.ofNat W) R D T (Int32.ofNat w) (axM Z f) = _ ∧ _
    unfold F_X10_heirs_80b q_spv q_hr
    rw [if_pos (qi_ge (by omega) (by omega))]
    refine ⟨f, ?_, fun _ _ => rfl⟩
    by_cases w0 : v = 0
    · rw [if_pos w0, if_pos w0]
    rw [if_neg w0, if_neg w0]
    by_cases w1 : v = 1
    · rw [if_pos w1, if_pos w1]
    rw [if_neg w1, if_neg w1]
  | succ n ih =>
    intro w fu f R D T hj hfu h
    obtain ⟨fu, rfl⟩ : ∃ q, fu = q + 1 := ⟨fu - 1, by omega⟩
    show ∃ f', F_X10_heirs_80b N (F_X10_heirs_80 N fu) m (Int32.ofNat k) v (Int32.ofNat W) R D T (Int32.ofNat w) (axM Z f) = _ ∧ _
    unfold F_X10_heirs_80b
    have h0 := h.1.1
    obtain ⟨p12, s4, e6⟩ := h.heirs
    obtain ⟨n6, n64, en6, et6⟩ := (q_fw_n h.2.2.1).2.2.2
    rw [en6, ← et6, hnh] at e6
    obtain ⟨f1, e1, fr1⟩ := qm_heirs106 (N := N) (w := w) hN hk (by omega) hO hO2 hnh hn4 (F_X10_heirs_80 N fu) v (Int32.ofNat W) R D T (Int32.ofNat w) nh N f (Nat.le_refl _) (by omega) h (fun i h1 h2 => absurd h2 (by omega))
    rw [Nat.sub_self, Nat.pow_zero, Nat.div_one, ← Int32.sub_eq_add_neg] at e1
    rw [if_neg (qi_nge (by omega) (by omega)), m_gr h0 p12, m_ld7_3 s4, e6, e1, qi_s]
    show ∃ f', _ = some (q_spv (if q_allb (q_hP ψ O k nh (q_bid (k + 1) nh w)) nh 0 = true then q_hr ψ O k nh n (w + 1) (R + 1) (if R = 0 then q_hdig (q_bid (k + 1) nh w) nh else D) (if R = 0 then q_htog ψ O nh (q_bid (k + 1) nh w) nh else T) else q_hr ψ O k nh n (w + 1) R D T) v, axM Z f') ∧ _
    have go : ∀ R' D' T', ∃ f', F_X10_heirs_80 N fu m (Int32.ofNat k) v (Int32.ofNat W) R' D' T' (Int32.ofNat (w + 1)) (axM Z f1) = some (q_spv (q_hr ψ O k nh n (w + 1) R' D' T') v, axM Z f') ∧ ∀ x, ¬ scM m x → f' x = f x := fun R' D' T' => by
      obtain ⟨f2, e2, fr2⟩ := ih (w + 1) fu f1 R' D' T' (by omega) (by omega) (h.sc fr1)
      exact ⟨f2, e2, fun x hx => by rw [fr2 x hx, fr1 x hx]⟩
    by_cases c : q_allb (q_hP ψ O k nh (q_bid (k + 1) nh w)) nh 0 = true
    · simp only [if_pos c]
      exact go _ _ _
    · simp only [if_neg c]
      exact go _ _ _
theorem qm_heirs54 (hN : 20000 < N) {O nh k : Nat} (hk : k ≤ 9) (hO : r 0 = Int32.ofNat O) (hO2 : O ≤ 99999) (hnh : (ψ 0 6).toNatClampNeg = nh) (hn4 : nh ≤ 4) (v : Int32) (h : HM Z m f ψ l r) : ∀ (n i fu : Nat), i + n = nh → n < fu → ∃ f', F_X10_heirs_54 N fu m (Int32.ofNat k) v (Int32.ofNat ((k + 1) ^ i)) 0 (-1) 0 (Int32.ofNat i) (axM Z f) = some (q_spv (q_hr ψ O k nh ((k + 1) ^ nh) 0 0 (-1) 0) v, axM Z f') ∧ ∀ x, ¬ scM m x → f' x = f x := by
  have h0 := h.1.1
  obtain ⟨p12, s4, e6⟩ := h.heirs
  obtain ⟨n6, n64, en6, et6⟩ := (q_fw_n h.2.2.1).2.2.2
  rw [en6, ← et6, hnh] at e6
  intro n
  induction n with
  | zero =>
    intro i fu hi hfu
    obtain ⟨fu, rfl⟩ : ∃ q, fu = q + 1 := ⟨fu - 1, by omega⟩
    show ∃ f', F_X10_heirs_54b N (F_X10_heirs_54 N fu) m (Int32.ofNat k) v (Int32.ofNat ((k + 1) ^ i)) 0 (-1) 0 (Int32.ofNat i) (axM Z f) = _ ∧ _
    unfold F_X10_heirs_54b
    have hp := q_p10 hk hn4
    rw [m_gr h0 p12, m_ld7_3 s4, e6, if_pos (qi_ge (by omega) (by omega)), show i = nh by omega]
    exact qm_heirs80 (by omega) hk hO hO2 hnh hn4 hp v ((k + 1) ^ nh) 0 N f 0 (-1) 0 (by omega) (by omega) h
  | succ n ih =>
    intro i fu hi hfu
    obtain ⟨fu, rfl⟩ : ∃ q, fu = q + 1 := ⟨fu - 1, by omega⟩
    show ∃ f', F_X10_heirs_54b N (F_X10_heirs_54 N fu) m (Int32.ofNat k) v (Int32.ofNat ((k + 1) ^ i)) 0 (-1) 0 (Int32.ofNat i) (axM Z f) = _ ∧ _
    unfold F_X10_heirs_54b
    rw [m_gr h0 p12, m_ld7_3 s4, e6, if_neg (qi_nge (by omega) (by omega)), qi_s, qi_s, qi_mul, ← Nat.pow_succ]
    exact ih (i + 1) fu (by omega) (by omega)
theorem qm_heirs (hN : 20000 < N) (h : HM Z m f ψ l r) (k w : Int32) : (q_heirc k w → MQz Z m f (F_X10_heirs N m k w (axM Z f)) (q_heirv ψ r k w)) ∧ (¬ q_heirc k w → MTz Z m f (F_X10_heirs N m k w (axM Z f)) 1 1) := by
  have h' := h.t0
  have h0 := h.1.1
  unfold F_X10_heirs F_X10_heirs_25 F_X10_heirs_30
  rw [m_pi h0, m_in, axB_s]
  refine ⟨fun ⟨c1, c2⟩ => ?_, fun c => ?_⟩
  · obtain ⟨n6, n64, en6, et6⟩ := (q_fw_n h.2.2.1).2.2.2
    obtain ⟨O, hO, eO⟩ := h.2.2.2.2.2.2.1.2.2.2.2.1
    rw [if_pos c1, if_neg (by decide), m_in, axB_s, if_pos c2, if_neg (by decide), m_is h0, qm_badF N h0]
    obtain ⟨kk, hk, rfl⟩ := q_nn c1.1 (show k ≤ Int32.ofNat 9 from c1.2) (by omega)
    unfold q_heirv
    rw [eO, et6, qi_tn (by omega), qi_tn (by omega)]
    obtain ⟨f1, e1, fr1⟩ := qm_heirs54 hN hk eO hO et6 n64 w h' n6 0 N (by omega) (by omega)
    exact MQz.mkk f1 e1 (KM.sc fr1)
  · by_cases c1 : 0 ≤ k ∧ k ≤ 9
    · rw [if_pos c1, if_neg (by decide), m_in, axB_s, if_neg (fun z => c ⟨c1, z⟩), if_pos rfl, m_is h0]
      exact qm_badT1 N h.1 _ _
    · rw [if_neg c1, if_pos rfl, m_is h0]
      exact qm_badT1 N h.1 _ _
end
