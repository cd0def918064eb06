/-! receipts, true or false -/
theorem qj_i {j : Nat} (h : j < 2 ^ 63) : (Int64.ofNat j).toInt = (j : Int) := Int64.toInt_ofNat_of_lt h
theorem qj_eq {i j : Nat} (hi : i < 2 ^ 63) (hj : j < 2 ^ 63) : (Int64.ofNat i = Int64.ofNat j) = (i = j) := by
  refine propext ⟨fun h => ?_, fun h => by rw [h]⟩
  have h9 := congrArg Int64.toInt h
  rw [qj_i hi, qj_i hj] at h9
  omega
theorem qj_lt {i j : Nat} (hi : i < 2 ^ 63) (hj : j < 2 ^ 63) : (Int64.ofNat i < Int64.ofNat j) = (i < j) := by
  rw [Int64.lt_iff_toInt_lt, qj_i hi, qj_i hj]
  exact propext ⟨fun h => by omega, fun h => by omega⟩
theorem qj_div {i j : Nat} (hi : i < 2 ^ 63) (hj : j < 2 ^ 63) : Int64.ofNat i / Int64.ofNat j = Int64.ofNat (i / j) := by
  have hne : Int64.ofNat j ≠ -1 := fun h => by
    have h9 := congrArg Int64.toInt h
    rw [qj_i hj] at h9
    have h8 : (-1 : Int64).toInt = -1 := by decide
    omega
  rw [← Int64.toInt_inj, Int64.toInt_div_of_ne_right _ _ hne, qj_i hi, qj_i hj, qj_i (Nat.lt_of_le_of_lt (Nat.div_le_self _ _) hi)]
  rfl
theorem qj_mod {i j : Nat} (hi : i < 2 ^ 63) (hj : j < 2 ^ 63) : Int64.ofNat i - Int64.ofNat i / Int64.ofNat j * Int64.ofNat j = Int64.ofNat (i % j) := by
  rw [qj_div hi hj, ← Int64.ofNat_mul, ← Int64.ofNat_sub _ _ (Nat.div_mul_le_self i j)]
  congr 1
  have := Nat.div_add_mod i j
  rw [Nat.mul_comm] at this
  omega
theorem qj_of {n : Nat} (h : n < 2147483648) : (Int32.ofNat n).toInt64 = Int64.ofNat n := by
  refine Int32.toInt64_ofNat' ?_
  have : Int32.maxValue.toInt = 2147483647 := by decide
  omega
theorem qj_cmp {i j : Nat} (hi : i < 2 ^ 63) (hj : j < 2 ^ 63) : lg_cmp (Int64.ofNat i) (Int64.ofNat j) = if j < i then 1 else if i = j then 0 else -1 := by
  unfold lg_cmp
  show (if Int64.ofNat j < Int64.ofNat i then _ else _) = _
  simp only [qj_lt hj hi, qj_eq hi hj]
theorem qj_nz {j : Nat} (h : j < 2 ^ 63) (h0 : 0 < j) : Int64.ofNat j ≠ 0 := fun q => by
  have h9 := congrArg Int64.toInt q
  rw [qj_i h] at h9
  have h8 : (0 : Int64).toInt = 0 := by decide
  omega
/-- choices, and how many ways -/
def q_chN (n : Nat) : Nat → Nat → Nat → Nat
  | 0, _, x => x
  | k + 1, j, x => q_chN n k (j + 1) (x * (n - j) / (j + 1))
def q_dwN (n o : Nat) : Nat → Nat → Nat → Nat
  | 0, _, x => x
  | k + 1, d, x => q_dwN n o k (d + 1) (x + q_chN n d 0 1 * o ^ d * (16 - o) ^ (n - d))
def q_rw (o : Nat) : Nat → Nat → Nat
  | 0, k => if k = 0 then 1 else 0
  | i + 1, 0 => q_rw o i 0 * (16 - o)
  | i + 1, k + 1 => q_rw o i (k + 1) * (16 - o) + q_rw o i k * o
def q_dl (o n : Nat) : Nat → Nat → Nat → Nat
  | 0, _, x => x
  | k + 1, d, x => q_dl o n k (d + 1) (x + q_rw o n d)
theorem q_odds : ∀ n, n < 9 → ∀ o, o < 17 → ∀ t, t < 10 → t ≤ n + 1 → q_dl o n (n + 1 - t) t 0 = q_dwN n o (n + 1 - t) t 0 ∧ q_dwN n o t 0 0 + q_dwN n o (n + 1 - t) t 0 = 16 ^ n := by decide +kernel
theorem m_pow (N : Nat) (x n : Nat) (hx : x < 2147483648) (hn : n < 2147483648) (S : AxS) : ∀ (k j fu a : Nat), j + k = n → k < fu → F_X9_power_5 N fu (Int32.ofNat x) (Int32.ofNat n) (Int64.ofNat a) (Int32.ofNat j) S = some (Int64.ofNat (a * x ^ k), S) := by
  intro k
  induction k with
  | zero =>
    intro j fu a hj hfu
    obtain ⟨fu, rfl⟩ : ∃ q, fu = q + 1 := ⟨fu - 1, by omega⟩
    show F_X9_power_5b N (F_X9_power_5 N fu) (Int32.ofNat x) (Int32.ofNat n) (Int64.ofNat a) (Int32.ofNat j) S = _
    unfold F_X9_power_5b
    rw [if_pos (qi_ge (by omega) (by omega)), Nat.pow_zero, Nat.mul_one]
  | succ k ih =>
    intro j fu a hj hfu
    obtain ⟨fu, rfl⟩ : ∃ q, fu = q + 1 := ⟨fu - 1, by omega⟩
    show F_X9_power_5b N (F_X9_power_5 N fu) (Int32.ofNat x) (Int32.ofNat n) (Int64.ofNat a) (Int32.ofNat j) S = _
    unfold F_X9_power_5b
    rw [if_neg (qi_nge (by omega) (by omega)), qj_of hx, ← Int64.ofNat_mul, qi_s, ih (j + 1) fu (a * x) (by omega) (by omega), Nat.pow_succ, Nat.mul_assoc, Nat.mul_comm x]
theorem m_power {N x n : Nat} (hN : 2000 < N) (hx : x < 2147483648) (hn : n ≤ 200) (S : AxS) : F_X9_power N (Int32.ofNat x) (Int32.ofNat n) S = some (Int64.ofNat (x ^ n), S) := by
  unfold F_X9_power
  have := m_pow N x n hx (by omega) S n 0 N 1 (by omega) (by omega)
  rw [Nat.one_mul] at this
  exact this
theorem m_ch (N : Nat) {n d : Nat} (hn : n ≤ 8) (hd : d ≤ n) (S : AxS) : ∀ (k j fu a : Nat), j + k = d → k < fu → a ≤ 8 ^ j → F_X9_choices_5 N fu (Int32.ofNat n) (Int32.ofNat d) (Int64.ofNat a) (Int32.ofNat (j + 1)) S = some (Int64.ofNat (q_chN n k j a), S) := by
  intro k
  induction k with
  | zero =>
    intro j fu a hj hfu ha
    obtain ⟨fu, rfl⟩ : ∃ q, fu = q + 1 := ⟨fu - 1, by omega⟩
    show F_X9_choices_5b N (F_X9_choices_5 N fu) (Int32.ofNat n) (Int32.ofNat d) (Int64.ofNat a) (Int32.ofNat (j + 1)) S = _
    unfold F_X9_choices_5b
    rw [if_pos (qi_gt (by omega) (by omega))]
    rfl
  | succ k ih =>
    intro j fu a hj hfu ha
    obtain ⟨fu, rfl⟩ : ∃ q, fu = q + 1 := ⟨fu - 1, by omega⟩
    show F_X9_choices_5b N (F_X9_choices_5 N fu) (Int32.ofNat n) (Int32.ofNat d) (Int64.ofNat a) (Int32.ofNat (j + 1)) S = _
    unfold F_X9_choices_5b
    have h8 : 8 ^ j ≤ 8 ^ 8 := Nat.pow_le_pow_right (by omega) (by omega)
    have h9 : a * (n - j) ≤ 8 ^ j * 8 := Nat.mul_le_mul ha (by omega)
    have h10 : (8 : Nat) ^ 8 = 16777216 := by decide
    rw [if_neg (qi_ngt (by omega) (by omega)), qi_s, qi_s, qi_sub (by omega), Nat.add_sub_add_right, qj_of (show j + 1 < 2147483648 by omega), qj_of (show n - j < 2147483648 by omega), m_nel (qj_nz (by omega) (by omega)), ← Int64.ofNat_mul, qj_div (by omega) (by omega)]
    exact ih (j + 1) fu _ (by omega) (by omega) (by
      rw [Nat.pow_succ]
      exact Nat.le_trans (Nat.div_le_self _ _) h9)
theorem m_dw {N : Nat} (hN : 2000 < N) {n o to : Nat} (hn : n ≤ 8) (ho : o ≤ 16) (ht : to ≤ n + 1) (S : AxS) : ∀ (k d fu x : Nat), d + k = to → k < fu → F_X9_dullWays_6 N fu (Int32.ofNat n) (Int32.ofNat o) (Int32.ofNat to) (Int64.ofNat x) (Int32.ofNat d) S = some (Int64.ofNat (q_dwN n o k d x), S) := by
  intro k
  induction k with
  | zero =>
    intro d fu x hj hfu
    obtain ⟨fu, rfl⟩ : ∃ q, fu = q + 1 := ⟨fu - 1, by omega⟩
    show F_X9_dullWays_6b N (F_X9_dullWays_6 N fu) (Int32.ofNat n) (Int32.ofNat o) (Int32.ofNat to) (Int64.ofNat x) (Int32.ofNat d) S = _
    unfold F_X9_dullWays_6b
    rw [if_pos (qi_ge (by omega) (by omega))]
    rfl
  | succ k ih =>
    intro d fu x hj hfu
    obtain ⟨fu, rfl⟩ : ∃ q, fu = q + 1 := ⟨fu - 1, by omega⟩
    show F_X9_dullWays_6b N (F_X9_dullWays_6 N fu) (Int32.ofNat n) (Int32.ofNat o) (Int32.ofNat to) (Int64.ofNat x) (Int32.ofNat d) S = _
    unfold F_X9_dullWays_6b F_X9_choices
    have hc := m_ch N hn (show d ≤ n by omega) S d 0 N 1 (by omega) (by omega) (by decide)
    rw [if_neg (qi_nge (by omega) (by omega)), show F_X9_choices_5 N N (Int32.ofNat n) (Int32.ofNat d) 1 1 S = _ from hc, axB_s, m_power hN (by omega) (by omega), axB_s, show (16 : Int32) - Int32.ofNat o = Int32.ofNat (16 - o) from qi_sub (i := 16) ho, qi_sub (by omega), m_power hN (by omega) (by omega), axB_s, ← Int64.ofNat_mul, ← Int64.ofNat_mul, ← Int64.ofNat_add, qi_s]
    exact ih (d + 1) fu _ (by omega) (by omega)
theorem m_dullWays {N : Nat} (hN : 2000 < N) {n o fr to : Nat} (hn : n ≤ 8) (ho : o ≤ 16) (hf : fr ≤ to) (ht : to ≤ n + 1) (S : AxS) : F_X9_dullWays N (Int32.ofNat n) (Int32.ofNat o) (Int32.ofNat fr) (Int32.ofNat to) S = some (Int64.ofNat (q_dwN n o (to - fr) fr 0), S) := m_dw hN hn ho ht S (to - fr) fr N 0 (by omega) (by omega)
theorem axJ_w (Z : AxS) (a k : Nat) (w : Int64) (j : Nat) : axJ (axSJ Z a k w) a j = if j = k then w else axJ Z a j := by
  show (if a = a then _ else _) = _
  rw [if_pos rfl]
  rfl
theorem ZJ.tr {m : Nat} {Z Z1 Z2 : AxS} (h : ZJ m Z Z1) (h2 : ZJ m Z1 Z2) : ZJ m Z Z2 := ⟨by rw [h2.1, h.1], by rw [h2.2.1, h.2.1], by rw [h2.2.2.1, h.2.2.1], fun a ha k => by rw [h2.2.2.2 a ha k, h.2.2.2 a ha k]⟩
theorem ZJ.w (m : Nat) (Z : AxS) (k : Nat) (w : Int64) : ZJ m Z (axSJ Z (m + 526) k w) := ⟨rfl, rfl, rfl, fun a ha j => by
  show (if a = m + 526 then _ else _) = _
  rw [if_neg ha]
  rfl⟩
section
variable {m N : Nat} {f : Nat → Nat → Int32}
theorem qm_dulls_110 {n o : Nat} (hn : n ≤ 8) : ∀ (k d fu x : Nat) (Z : AxS), axL Z m = some (0, 10) → axP Z m 41 = some (m + 526) → axL Z (m + 526) = some (2, 10) → (∀ j, j ≤ n → axJ Z (m + 526) j = Int64.ofNat (q_rw o n j)) → d + k = n + 1 → k < fu → F_X10_dulls_110 N fu m (Int32.ofNat n) (Int64.ofNat x) (Int32.ofNat d) (axM Z f) = some (Int64.ofNat (q_dl o n k d x), axM Z f) := by
  intro k
  induction k with
  | zero =>
    intro d fu x Z h0 p s hr hd hfu
    obtain ⟨fu, rfl⟩ : ∃ q, fu = q + 1 := ⟨fu - 1, by omega⟩
    show F_X10_dulls_110b N (F_X10_dulls_110 N fu) m (Int32.ofNat n) (Int64.ofNat x) (Int32.ofNat d) (axM Z f) = _
    unfold F_X10_dulls_110b
    rw [if_pos (qi_gt (by omega) (by omega))]
    rfl
  | succ k ih =>
    intro d fu x Z h0 p s hr hd hfu
    obtain ⟨fu, rfl⟩ : ∃ q, fu = q + 1 := ⟨fu - 1, by omega⟩
    show F_X10_dulls_110b N (F_X10_dulls_110 N fu) m (Int32.ofNat n) (Int64.ofNat x) (Int32.ofNat d) (axM Z f) = _
    unfold F_X10_dulls_110b
    rw [if_neg (qi_ngt (by omega) (by omega)), m_gr h0 p, m_ldl s (qi_nn (by omega)) (qi_tn (by omega)) (show d < 10 by omega), hr d (by omega), ← Int64.ofNat_add, qi_s]
    exact ih (d + 1) fu _ Z h0 p s hr (by omega) (by omega)
theorem q_rw_0 (o i : Nat) : q_rw o (i + 1) 0 = q_rw o i 0 * (16 - o) := rfl
theorem q_rw_s (o i k : Nat) : q_rw o (i + 1) (k + 1) = q_rw o i (k + 1) * (16 - o) + q_rw o i k * o := rfl
theorem qm_dulls_45 {n o : Nat} (hn : n ≤ 8) (ho : o ≤ 16) (K : Nat → Int32 → Int32 → Int32 → Int32 → AxS → Option (Int64 × AxS)) (v3 v4 : Int32) (i : Nat) : ∀ (c fu : Nat) (Z : AxS), axL Z m = some (0, 10) → axP Z m 41 = some (m + 526) → axL Z (m + 526) = some (2, 10) → c ≤ n + 1 → (∀ j, j ≤ n → axJ Z (m + 526) j = Int64.ofNat (if j < c then q_rw o i j else q_rw o (i + 1) j)) → c < fu → ∃ Z', F_X10_dulls_45 N K fu m (Int32.ofNat n) (Int32.ofNat o) v3 v4 (Int32.ofNat c + (-1)) (axM Z f) = K m (Int32.ofNat n) (Int32.ofNat o) v3 (v4 + 1) (axM Z' f) ∧ ZJ m Z Z' ∧ ∀ j, j ≤ n → axJ Z' (m + 526) j = Int64.ofNat (q_rw o (i + 1) j) := by
  intro c
  induction c with
  | zero =>
    intro fu Z h0 p s hc hr hfu
    obtain ⟨fu, rfl⟩ : ∃ q, fu = q + 1 := ⟨fu - 1, by omega⟩
    show ∃ Z', F_X10_dulls_45b N K (F_X10_dulls_45 N K fu) m (Int32.ofNat n) (Int32.ofNat o) v3 v4 (Int32.ofNat 0 + (-1)) (axM Z f) = _ ∧ _
    unfold F_X10_dulls_45b
    rw [if_pos (by decide)]
    exact ⟨Z, rfl, ZJ.rf _ _, fun j hj => by rw [hr j hj, if_neg (by omega)]⟩
  | succ c ih =>
    intro fu Z h0 p s hc hr hfu
    obtain ⟨fu, rfl⟩ : ∃ q, fu = q + 1 := ⟨fu - 1, by omega⟩
    rw [qi_m1 (by omega), Nat.add_sub_cancel]
    show ∃ Z', F_X10_dulls_45b N K (F_X10_dulls_45 N K fu) m (Int32.ofNat n) (Int32.ofNat o) v3 v4 (Int32.ofNat c) (axM Z f) = _ ∧ _
    unfold F_X10_dulls_45b F_X10_dulls_90
    rw [if_neg (qi_nn (by omega))]
    simp only [m_gr h0 p, m_ldl s (qi_nn (show c < 2147483648 by omega)) (qi_tn (by omega)) (show c < 10 by omega), m_stl s (qi_nn (show c < 2147483648 by omega)) (qi_tn (by omega)) (show c < 10 by omega)]
    rw [hr c (by omega), if_pos (show c < c + 1 by omega), show (16 : Int32) - Int32.ofNat o = Int32.ofNat (16 - o) from qi_sub (i := 16) ho, qj_of (show 16 - o < 2147483648 by omega), ← Int64.ofNat_mul]
    have go : ∀ w, w = Int64.ofNat (q_rw o (i + 1) c) → ∃ Z', F_X10_dulls_45 N K fu m (Int32.ofNat n) (Int32.ofNat o) v3 v4 (Int32.ofNat c + (-1)) (axM (axSJ Z (m + 526) c w) f) = K m (Int32.ofNat n) (Int32.ofNat o) v3 (v4 + 1) (axM Z' f) ∧ ZJ m Z Z' ∧ ∀ j, j ≤ n → axJ Z' (m + 526) j = Int64.ofNat (q_rw o (i + 1) j) := by
      intro w hw
      obtain ⟨Z', e, z1, z2⟩ := ih fu (axSJ Z (m + 526) c w) h0 p s (by omega) (fun j hj => by
        rw [axJ_w]
        by_cases cj : j = c
        · rw [if_pos cj, hw, cj, if_neg (by omega)]
        · rw [if_neg cj, hr j hj]
          by_cases c2 : j < c
          · rw [if_pos c2, if_pos (by omega)]
          · rw [if_neg c2, if_neg (by omega)]) (by omega)
      exact ⟨Z', e, (ZJ.w m Z c w).tr z1, z2⟩
    by_cases c0 : c = 0
    · subst c0
      rw [if_pos (show Int32.ofNat 0 = 0 from rfl)]
      exact go _ (by rw [q_rw_0, Int64.add_zero])
    · rw [if_neg (show ¬ Int32.ofNat c = 0 from qi_ne (j := 0) c0 (by omega) (by omega)), qi_m2 (by omega), m_ldl s (qi_nn (show c - 1 < 2147483648 by omega)) (qi_tn (by omega)) (show c - 1 < 10 by omega), hr (c - 1) (by omega), if_pos (show c - 1 < c + 1 by omega), qj_of (show o < 2147483648 by omega), ← Int64.ofNat_mul, ← Int64.ofNat_add]
      exact go _ (by
        obtain ⟨e, rfl⟩ : ∃ e, c = e + 1 := ⟨c - 1, by omega⟩
        rw [q_rw_s, Nat.add_sub_cancel])
theorem qm_dulls_36 {n o t : Nat} (hN : 2000 < N) (hn : n ≤ 8) (ho : o ≤ 16) (ht : t ≤ n + 1) : ∀ (k i fu : Nat) (Z : AxS), axL Z m = some (0, 10) → axP Z m 41 = some (m + 526) → axL Z (m + 526) = some (2, 10) → (∀ j, j ≤ n → axJ Z (m + 526) j = Int64.ofNat (q_rw o i j)) → i + k = n → k < fu → ∃ Z', F_X10_dulls_36 N fu m (Int32.ofNat n) (Int32.ofNat o) (Int32.ofNat t) (Int32.ofNat i) (axM Z f) = some (Int64.ofNat (q_dl o n (n + 1 - t) t 0), axM Z' f) ∧ ZJ m Z Z' := by
  intro k
  induction k with
  | zero =>
    intro i fu Z h0 p s hr hi hfu
    obtain ⟨fu, rfl⟩ : ∃ q, fu = q + 1 := ⟨fu - 1, by omega⟩
    show ∃ Z', F_X10_dulls_36b N (F_X10_dulls_36 N fu) m (Int32.ofNat n) (Int32.ofNat o) (Int32.ofNat t) (Int32.ofNat i) (axM Z f) = _ ∧ _
    unfold F_X10_dulls_36b
    have e : i = n := by omega
    subst e
    rw [if_pos (Int32.le_refl _)]
    exact ⟨Z, qm_dulls_110 hn (i + 1 - t) t N 0 Z h0 p s hr (by omega) (by omega), ZJ.rf _ _⟩
  | succ k ih =>
    intro i fu Z h0 p s hr hi hfu
    obtain ⟨fu, rfl⟩ : ∃ q, fu = q + 1 := ⟨fu - 1, by omega⟩
    show ∃ Z', F_X10_dulls_36b N (F_X10_dulls_36 N fu) m (Int32.ofNat n) (Int32.ofNat o) (Int32.ofNat t) (Int32.ofNat i) (axM Z f) = _ ∧ _
    unfold F_X10_dulls_36b
    rw [if_neg (qi_nge (by omega) (by omega))]
    obtain ⟨Z1, e1, z1, r1⟩ := qm_dulls_45 (N := N) (f := f) hn ho (F_X10_dulls_36 N fu) (Int32.ofNat t) (Int32.ofNat i) i (n + 1) N Z h0 p s (by omega) (fun j hj => by rw [hr j hj, if_pos (by omega)]) (by omega)
    rw [qi_m1 (by omega), Nat.add_sub_cancel, qi_s] at e1
    rw [e1]
    obtain ⟨Z2, e2, z2⟩ := ih (i + 1) fu Z1 (by unfold axL; rw [z1.2.1]; exact h0) (by unfold axP; rw [z1.2.2.1]; exact p) (by unfold axL; rw [z1.2.1]; exact s) r1 (by omega) (by omega)
    exact ⟨Z2, e2, z1.tr z2⟩
theorem qm_dulls_3 {n o t : Nat} (hN : 2000 < N) (hn : n ≤ 8) (ho : o ≤ 16) (ht : t ≤ n + 1) : ∀ (k i fu : Nat) (Z : AxS), axL Z m = some (0, 10) → axP Z m 41 = some (m + 526) → axL Z (m + 526) = some (2, 10) → (∀ j, j < i → axJ Z (m + 526) j = Int64.ofNat (q_rw o 0 j)) → i + k = 10 → k < fu → ∃ Z', F_X10_dulls_3 N fu m (Int32.ofNat n) (Int32.ofNat o) (Int32.ofNat t) (Int32.ofNat i) (axM Z f) = some (Int64.ofNat (q_dl o n (n + 1 - t) t 0), axM Z' f) ∧ ZJ m Z Z' := by
  intro k
  induction k with
  | zero =>
    intro i fu Z h0 p s hr hi hfu
    obtain ⟨fu, rfl⟩ : ∃ q, fu = q + 1 := ⟨fu - 1, by omega⟩
    show ∃ Z', F_X10_dulls_3b N (F_X10_dulls_3 N fu) m (Int32.ofNat n) (Int32.ofNat o) (Int32.ofNat t) (Int32.ofNat i) (axM Z f) = _ ∧ _
    unfold F_X10_dulls_3b
    rw [if_pos (show (10 : Int32) ≤ Int32.ofNat i from qi_ge (i := 10) (by omega) (by omega))]
    exact qm_dulls_36 hN hn ho ht n 0 N Z h0 p s (fun j hj => hr j (by omega)) (by omega) (by omega)
  | succ k ih =>
    intro i fu Z h0 p s hr hi hfu
    obtain ⟨fu, rfl⟩ : ∃ q, fu = q + 1 := ⟨fu - 1, by omega⟩
    show ∃ Z', F_X10_dulls_3b N (F_X10_dulls_3 N fu) m (Int32.ofNat n) (Int32.ofNat o) (Int32.ofNat t) (Int32.ofNat i) (axM Z f) = _ ∧ _
    unfold F_X10_dulls_3b F_X10_dulls_26
    rw [if_neg (show ¬ (10 : Int32) ≤ Int32.ofNat i from qi_nge (i := 10) (by omega) (by omega)), m_gr h0 p]
    simp only [m_stl s (qi_nn (show i < 2147483648 by omega)) (qi_tn (by omega)) (show i < 10 by omega), qi_s]
    have go : ∀ w, w = Int64.ofNat (q_rw o 0 i) → ∃ Z', F_X10_dulls_3 N fu m (Int32.ofNat n) (Int32.ofNat o) (Int32.ofNat t) (Int32.ofNat (i + 1)) (axM (axSJ Z (m + 526) i w) f) = some (Int64.ofNat (q_dl o n (n + 1 - t) t 0), axM Z' f) ∧ ZJ m Z Z' := by
      intro w hw
      obtain ⟨Z2, e2, z2⟩ := ih (i + 1) fu (axSJ Z (m + 526) i w) h0 p s (fun j hj => by
        rw [axJ_w]
        by_cases cj : j = i
        · rw [if_pos cj, hw, cj]
        · rw [if_neg cj]
          exact hr j (by omega)) (by omega) (by omega)
      exact ⟨Z2, e2, (ZJ.w m Z i w).tr z2⟩
    by_cases c0 : i = 0
    · subst c0
      rw [if_pos (show Int32.ofNat 0 = 0 from rfl)]
      exact go _ rfl
    · rw [if_neg (show ¬ Int32.ofNat i = 0 from qi_ne (j := 0) c0 (by omega) (by omega))]
      exact go _ (by
        show (0 : Int64) = Int64.ofNat (if i = 0 then 1 else 0)
        rw [if_neg c0]
        rfl)
theorem qm_dulls {Z : AxS} {n o t : Nat} (hN : 2000 < N) (hm : LMo Z m) (hn : n ≤ 8) (ho : o ≤ 16) (ht : t ≤ n + 1) : ∃ Z', F_X10_dulls N m (Int32.ofNat n) (Int32.ofNat o) (Int32.ofNat t) (axM Z f) = some (Int64.ofNat (q_dwN n o (n + 1 - t) t 0), axM Z' f) ∧ ZJ m Z Z' := by
  obtain ⟨Z', e, z⟩ := qm_dulls_3 (f := f) hN hn ho ht 10 0 N Z hm.1 (hm.2.1 41 526 rfl) (hm.2.2.1 526 _ rfl) (fun j hj => absurd hj (by omega)) (by omega) (by omega)
  rw [(q_odds n (by omega) o (by omega) t (by omega) ht).1] at e
  exact ⟨Z', e, z⟩
theorem LMo.zj {Z Z' : AxS} (h : LMo Z m) (z : ZJ m Z Z') : LMo Z' m := by
  obtain ⟨h1, h2, h3, h4⟩ := h
  have L : ∀ a, axL Z' a = axL Z a := fun a => by unfold axL; rw [z.2.1]
  have P : ∀ a k, axP Z' a k = axP Z a k := fun a k => by unfold axP; rw [z.2.2.1]
  exact ⟨by rw [L]; exact h1, fun k t e => by rw [P]; exact h2 k t e, fun t sh e => by rw [L]; exact h3 t sh e, fun t n K e j hj => by rw [P, L]; exact h4 t n K e j hj⟩
end
