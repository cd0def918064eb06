/-! mistaken, best -/
theorem q_halves : ∀ (e a : Nat), 1 < 2 ^ (e + 1) ∧ (a % 2 = 0 → a / Nat.gcd (2 ^ (e + 1)) a = (a / 2) / Nat.gcd (2 ^ e) (a / 2) ∧ 2 ^ (e + 1) / Nat.gcd (2 ^ (e + 1)) a = 2 ^ e / Nat.gcd (2 ^ e) (a / 2)) ∧ (a % 2 = 1 → Nat.gcd (2 ^ (e + 1)) a = 1) := by
  intro e a
  have hp : 0 < 2 ^ e := Nat.pow_pos (by omega)
  refine ⟨by rw [Nat.pow_succ]; omega, fun h => ?_, fun h => ?_⟩
  · obtain ⟨c, rfl⟩ : ∃ c, a = 2 * c := ⟨a / 2, by omega⟩
    rw [show 2 * c / 2 = c by omega, Nat.pow_succ, Nat.mul_comm (2 ^ e) 2, Nat.gcd_mul_left]
    exact ⟨Nat.mul_div_mul_left _ _ (by omega), Nat.mul_div_mul_left _ _ (by omega)⟩
  · have hc : Nat.gcd 2 a = 1 := by
      rw [Nat.gcd_rec, h]
      decide
    exact Nat.Coprime.pow_left _ hc
theorem qj_mod2 {a : Nat} (h : a < 2 ^ 63) : Int64.ofNat a - Int64.ofNat a / 2 * 2 = Int64.ofNat (a % 2) := qj_mod (j := 2) h (by omega)
theorem qj_div2 {a : Nat} (h : a < 2 ^ 63) : Int64.ofNat a / 2 = Int64.ofNat (a / 2) := qj_div (j := 2) h (by omega)
theorem qj_cmp0 {a : Nat} (h : a < 2 ^ 63) : lg_cmp (Int64.ofNat a) 0 = if 0 < a then 1 else if a = 0 then 0 else -1 := qj_cmp (j := 0) h (by omega)
theorem qj_cmp1 {a : Nat} (h : a < 2 ^ 63) : lg_cmp (Int64.ofNat a) 1 = if 1 < a then 1 else if a = 1 then 0 else -1 := qj_cmp (j := 1) h (by omega)
theorem qj_c0p {a : Nat} (h : a < 2 ^ 63) (h0 : 0 < a) : lg_cmp (Int64.ofNat a) 0 = 1 := by rw [qj_cmp0 h, if_pos h0]
theorem qj_c0z : lg_cmp (Int64.ofNat 0) 0 = 0 := by decide
theorem qj_c1p {a : Nat} (h : a < 2 ^ 63) (h0 : 1 < a) : lg_cmp (Int64.ofNat a) 1 = 1 := by rw [qj_cmp1 h, if_pos h0]
theorem qj_c11 : lg_cmp (Int64.ofNat 1) 1 = 0 := by decide
theorem qj_cg {i j : Nat} (hi : i < 2 ^ 63) (hj : j < 2 ^ 63) (h : i < j) : lg_cmp (Int64.ofNat i) (Int64.ofNat j) = -1 := by rw [qj_cmp hi hj, if_neg (show ¬ j < i by omega), if_neg (show ¬ i = j by omega)]
theorem qj_cn {i j : Nat} (hi : i < 2 ^ 63) (hj : j < 2 ^ 63) (h : ¬ i < j) : ¬ lg_cmp (Int64.ofNat i) (Int64.ofNat j) < 0 := by
  rw [qj_cmp hi hj]
  by_cases c : j < i
  · rw [if_pos c]
    decide
  · rw [if_neg c, if_pos (show i = j by omega)]
    decide
theorem qj_cmpm {a : Nat} (h : a < 2 ^ 63) : lg_cmp (Int64.ofNat a) (-1) = 1 := by
  unfold lg_cmp
  refine if_pos ?_
  show (-1 : Int64) < Int64.ofNat a
  rw [Int64.lt_iff_toInt_lt, qj_i h, show (-1 : Int64).toInt = -1 by decide]
  omega
def q_mis (part : Int32) (a w : Nat) : Int64 := if part = 0 then Int64.ofNat (a / Nat.gcd w a) else Int64.ofNat (w / Nat.gcd w a)
theorem m_halve (N : Nat) (S : AxS) (part : Int32) : ∀ (e a j fu : Nat), a < 2 ^ 63 → e + j ≤ 32 → e < fu → F_X9_mistaken_99 N fu part (Int64.ofNat a) (Int64.ofNat (2 ^ e)) (Int32.ofNat j) S = some (.inl (q_mis part a (2 ^ e)), S) := by
  intro e
  induction e with
  | zero =>
    intro a j fu ha hj hfu
    obtain ⟨fu, rfl⟩ : ∃ q, fu = q + 1 := ⟨fu - 1, by omega⟩
    show F_X9_mistaken_99b N (F_X9_mistaken_99 N fu) part (Int64.ofNat a) (Int64.ofNat (2 ^ 0)) (Int32.ofNat j) S = _
    unfold F_X9_mistaken_99b F_X9_mistaken_146 q_mis
    rw [Nat.pow_zero, qj_c11, Nat.gcd_one_left, Nat.div_one, Nat.div_one]
    have e0 : (if part = 0 then some (Sum.inl (Int64.ofNat a), S) else some (Sum.inl (Int64.ofNat 1), S)) = (some (Sum.inl (if part = 0 then Int64.ofNat a else Int64.ofNat 1), S) : Option (AxT Int64)) := by
      by_cases c : part = 0
      · rw [if_pos c, if_pos c]
      · rw [if_neg c, if_neg c]
    by_cases c : (32 : Int32) ≤ Int32.ofNat j
    · rw [if_pos c]
      exact e0
    · rw [if_neg c, if_pos (Int32.le_refl 0)]
      exact e0
  | succ e ih =>
    intro a j fu ha hj hfu
    obtain ⟨fu, rfl⟩ : ∃ q, fu = q + 1 := ⟨fu - 1, by omega⟩
    show F_X9_mistaken_99b N (F_X9_mistaken_99 N fu) part (Int64.ofNat a) (Int64.ofNat (2 ^ (e + 1))) (Int32.ofNat j) S = _
    obtain ⟨h1, h2, h3⟩ := q_halves e a
    have hp : 2 ^ (e + 1) ≤ 2 ^ 32 := Nat.pow_le_pow_right (by omega) (by omega)
    have hp2 : (2 : Nat) ^ 32 = 4294967296 := by decide
    unfold F_X9_mistaken_99b F_X9_mistaken_146 q_mis
    rw [if_neg (show ¬ (32 : Int32) ≤ Int32.ofNat j from qi_nge (i := 32) (by omega) (by omega)), qj_c1p (by omega) h1, if_neg (show ¬ (1 : Int32) ≤ 0 by decide), m_nel (show (2 : Int64) ≠ 0 by decide), qj_mod2 ha]
    by_cases c : a % 2 = 0
    · obtain ⟨g1, g2⟩ := h2 c
      have e2 : Int64.ofNat (2 ^ (e + 1)) / 2 = Int64.ofNat (2 ^ e) := by
        rw [qj_div2 (by omega), Nat.pow_succ, Nat.mul_div_cancel _ (by omega)]
      rw [c, qj_c0z, if_pos rfl, m_nel (show (2 : Int64) ≠ 0 by decide), m_nel (show (2 : Int64) ≠ 0 by decide), qj_div2 ha, e2, qi_s, ih (a / 2) (j + 1) fu (by omega) (by omega) (by omega)]
      unfold q_mis
      rw [g1, g2]
    · rw [qj_c0p (by omega) (by omega), if_neg (show ¬ (1 : Int32) = 0 by decide), h3 (by omega), Nat.div_one, Nat.div_one]
      by_cases c : part = 0
      · rw [if_pos c, if_pos c]
      · rw [if_neg c, if_neg c]
theorem m_whole (N : Nat) {n : Nat} (hn : n ≤ 8) (S : AxS) : F_X10_whole N (Int32.ofNat n) S = some (Int64.ofNat (16 ^ n), S) := by
  unfold F_X10_whole
  have : n = 0 ∨ n = 1 ∨ n = 2 ∨ n = 3 ∨ n = 4 ∨ n = 5 ∨ n = 6 ∨ n = 7 ∨ n = 8 := by omega
  rcases this with rfl | rfl | rfl | rfl | rfl | rfl | rfl | rfl | rfl <;> rfl
theorem q_p16 {n : Nat} (hn : n ≤ 8) : 16 ^ n ≤ 4294967296 ∧ 0 < 16 ^ n ∧ 16 ^ n = 2 ^ (4 * n) := by
  have : n = 0 ∨ n = 1 ∨ n = 2 ∨ n = 3 ∨ n = 4 ∨ n = 5 ∨ n = 6 ∨ n = 7 ∨ n = 8 := by omega
  rcases this with rfl | rfl | rfl | rfl | rfl | rfl | rfl | rfl | rfl <;> decide
theorem m_euclid (N : Nat) (S : AxS) (part : Int32) {n up : Nat} (hn : n ≤ 8) (hu : up < 2 ^ 63) (w : Nat) (hw : w = 16 ^ n) : ∀ (e a b fu : Nat), b ≤ a → 0 < a → a < 2 ^ 63 → a * b < 2 ^ e → e < fu → Nat.gcd a b = Nat.gcd w up → F_X10_mistaken_103 N fu (Int32.ofNat n) part (Int64.ofNat up) (Int64.ofNat a) (Int64.ofNat b) S = some (q_mis part up w, S) := by
  have h16 := q_p16 hn
  have stop : ∀ a fu, 0 < a → a < 2 ^ 63 → Nat.gcd a 0 = Nat.gcd w up → 0 < fu → F_X10_mistaken_103 N fu (Int32.ofNat n) part (Int64.ofNat up) (Int64.ofNat a) (Int64.ofNat 0) S = some (q_mis part up w, S) := by
    intro a fu ha ha2 hg hfu
    obtain ⟨fu, rfl⟩ : ∃ q, fu = q + 1 := ⟨fu - 1, by omega⟩
    show F_X10_mistaken_103b N (F_X10_mistaken_103 N fu) (Int32.ofNat n) part (Int64.ofNat up) (Int64.ofNat a) (Int64.ofNat 0) S = _
    unfold F_X10_mistaken_103b q_mis
    rw [Nat.gcd_zero_right] at hg
    rw [qj_c0z, if_pos rfl, m_nel (qj_nz ha2 ha), m_whole N hn, axB_s, m_nel (qj_nz ha2 ha), qj_div hu ha2, qj_div (by omega) ha2, ← hg, hw]
    by_cases c : part = 0
    · rw [if_pos c, if_pos c]
    · rw [if_neg c, if_neg c]
  intro e
  induction e with
  | zero =>
    intro a b fu hb ha ha2 he hfu hg
    have : b = 0 := by
      rcases Nat.eq_zero_or_pos b with h | h
      · exact h
      · have := Nat.mul_pos ha h
        omega
    subst this
    exact stop a fu ha ha2 hg hfu
  | succ e ih =>
    intro a b fu hb ha ha2 he hfu hg
    by_cases hb0 : b = 0
    · subst hb0
      exact stop a fu ha ha2 hg (by omega)
    · obtain ⟨fu, rfl⟩ : ∃ q, fu = q + 1 := ⟨fu - 1, by omega⟩
      show F_X10_mistaken_103b N (F_X10_mistaken_103 N fu) (Int32.ofNat n) part (Int64.ofNat up) (Int64.ofNat a) (Int64.ofNat b) S = _
      unfold F_X10_mistaken_103b
      rw [qj_c0p (show b < 2 ^ 63 by omega) (by omega), if_neg (show ¬ (1 : Int32) = 0 by decide), m_nel (qj_nz (show b < 2 ^ 63 by omega) (by omega)), qj_mod ha2 (show b < 2 ^ 63 by omega)]
      have hm : a % b < b := Nat.mod_lt _ (by omega)
      have hq : 1 ≤ a / b := (Nat.one_le_div_iff (by omega)).mpr hb
      have hd := Nat.div_add_mod a b
      have hbb : b * 1 ≤ b * (a / b) := Nat.mul_le_mul_left _ hq
      have h1 : b * (2 * (a % b)) ≤ b * a := Nat.mul_le_mul_left _ (by omega)
      have h2 : b * (2 * (a % b)) = 2 * (b * (a % b)) := Nat.mul_left_comm _ _ _
      have h3 : b * a = a * b := Nat.mul_comm _ _
      have h4 : 2 ^ (e + 1) = 2 ^ e * 2 := Nat.pow_succ _ _
      exact ih b (a % b) fu (by omega) (by omega) (by omega) (by omega) (by omega) (by
        rw [← hg, Nat.gcd_comm a b, Nat.gcd_rec b a, Nat.gcd_comm])
/-- what may be asked -/
def q_odc (n p q : Int32) : Prop := (0 ≤ n ∧ n ≤ 8) ∧ (0 ≤ p ∧ p ≤ 16) ∧ (0 ≤ q ∧ q ≤ 16)
def q_misc (n p q t w part : Int32) : Prop := q_odc n p q ∧ (0 ≤ t ∧ t ≤ n + 1) ∧ (0 ≤ w ∧ w ≤ 1) ∧ (0 ≤ part ∧ part ≤ 1)
def q_misup (n p q t : Nat) (w : Int32) : Nat := if w = 0 then q_dwN n q t 0 0 else q_dwN n p (n + 1 - t) t 0
def q_misv (n p q t w part : Int32) : Int64 := q_mis part (q_misup n.toNatClampNeg p.toNatClampNeg q.toNatClampNeg t.toNatClampNeg w) (16 ^ n.toNatClampNeg)
theorem q_misup_le {n p q t : Nat} (hn : n ≤ 8) (hp : p ≤ 16) (hq : q ≤ 16) (ht : t ≤ n + 1) (w : Int32) : q_misup n p q t w ≤ 16 ^ n := by
  unfold q_misup
  have h1 := (q_odds n (by omega) q (by omega) t (by omega) ht).2
  have h2 := (q_odds n (by omega) p (by omega) t (by omega) ht).2
  split <;> omega
section
variable {Z : AxS} {b m fa sf la sl bo sb N B : Nat} {ψ : QF} {l : QL} {r ρ : QR} {f f0 : Nat → Nat → Int32}
theorem m_odc1 {n p q : Int32} (c : q_odc n p q) (S : AxS) : F_X10_areOdds N n p q S = some (1, S) := by
  obtain ⟨c1, c2, c3⟩ := c
  unfold F_X10_areOdds
  simp only [m_in, axB_s, if_pos c1, if_pos c2, if_pos c3, m_rz1, if_neg (show ¬ (1 : Int32) = 0 by decide)]
theorem m_odc0 {n p q : Int32} (c : ¬ q_odc n p q) (S : AxS) : F_X10_areOdds N n p q S = some (0, S) := by
  unfold F_X10_areOdds
  simp only [m_in, axB_s]
  by_cases c1 : 0 ≤ n ∧ n ≤ 8
  · rw [if_pos c1, if_neg (by decide)]
    by_cases c2 : 0 ≤ p ∧ p ≤ 16
    · rw [if_pos c2, if_neg (by decide)]
      by_cases c3 : 0 ≤ q ∧ q ≤ 16
      · exact absurd ⟨c1, c2, c3⟩ c
      · rw [if_neg c3, if_pos rfl, m_rz0]
    · rw [if_neg c2, if_pos rfl, m_rz0]
  · rw [if_neg c1, if_pos rfl, m_rz0]
theorem qc_odc1 {α : Type} (h0 : axL Z b = some (0, 9)) {n p q : Int32} (c : q_odc n p q) (K : Unit → AxS → Option (AxT α)) : axBT (F_X9_needReceipt N b n p q (axM Z f)) K = K () (axM Z f) := by
  obtain ⟨c1, c2, c3⟩ := c
  unfold F_X9_needReceipt F_X9_needReceipt_35 F_X9_needReceipt_36
  simp only [qc_needT h0, qc_needO h0, q_rg rfl, if_pos c1, if_pos c2, if_pos c3, axBT_l]
theorem qc_odc0 {α : Type} (h0 : axL Z b = some (0, 9)) {n p q : Int32} (c : ¬ q_odc n p q) (K : Unit → AxS → Option (AxT α)) : axBT (F_X9_needReceipt N b n p q (axM Z f)) K = some (.inr q_iae, axM (axS0 Z) (ax2 f b 15 (f b 15 + 1))) := by
  unfold F_X9_needReceipt F_X9_needReceipt_35 F_X9_needReceipt_36
  simp only [qc_needT h0, qc_needO h0, q_rg rfl]
  by_cases c1 : 0 ≤ n ∧ n ≤ 8
  · rw [if_pos c1]
    by_cases c2 : 0 ≤ p ∧ p ≤ 16
    · rw [if_pos c2]
      by_cases c3 : 0 ≤ q ∧ q ≤ 16
      · exact absurd ⟨c1, c2, c3⟩ c
      · rw [if_neg c3, axBT_r]
    · rw [if_neg c2, axBT_r]
  · rw [if_neg c1, axBT_r]
theorem q_odcN {n p q : Int32} (c : q_odc n p q) : ∃ n' p' q' : Nat, (n' ≤ 8 ∧ p' ≤ 16 ∧ q' ≤ 16) ∧ n = Int32.ofNat n' ∧ p = Int32.ofNat p' ∧ q = Int32.ofNat q' := by
  obtain ⟨n', h1, e1⟩ := q_nn c.1.1 (show n ≤ Int32.ofNat 8 from c.1.2) (by omega)
  obtain ⟨p', h2, e2⟩ := q_nn c.2.1.1 (show p ≤ Int32.ofNat 16 from c.2.1.2) (by omega)
  obtain ⟨q', h3, e3⟩ := q_nn c.2.2.1 (show q ≤ Int32.ofNat 16 from c.2.2.2) (by omega)
  exact ⟨n', p', q', ⟨h1, h2, h3⟩, e1, e2, e3⟩
theorem qc_mistaken (hN : 2000 < N) (h : HC Z b fa sf la sl bo sb f ψ l r) (n p q t w part : Int32) : (q_misc n p q t w part → CQz Z b f (F_X9_mistaken N b n p q t w part (axM Z f)) (q_misv n p q t w part)) ∧ (¬ q_misc n p q t w part → CTz Z b f (F_X9_mistaken N b n p q t w part (axM Z f)) q_iae 15) := by
  have h0 := h.1.1.1
  unfold F_X9_mistaken F_X9_mistaken_25 F_X9_mistaken_26 F_X9_mistaken_56 F_X9_mistaken_57 F_X9_mistaken_86
  rw [m_is h0]
  refine ⟨fun ⟨c, ct, cw, cp⟩ => ?_, fun c => ?_⟩
  · rw [qc_odc1 h0 c]
    simp only [qc_needT h0, qc_needO h0, q_rg rfl]
    rw [if_pos ct, if_pos cw, if_pos cp]
    obtain ⟨n', p', q', ⟨h1, h2, h3⟩, rfl, rfl, rfl⟩ := q_odcN c
    rw [qi_s] at ct
    obtain ⟨t', h4, rfl⟩ := q_nn ct.1 ct.2 (by omega)
    unfold q_misv
    rw [qi_tn (by omega), qi_tn (by omega), qi_tn (by omega), qi_tn (by omega)]
    have h16 := q_p16 h1
    have hle := q_misup_le h1 h2 h3 h4 w
    have hh := m_halve N (axM Z f) part (4 * n') (q_misup n' p' q' t' w) 0 N (by omega) (by omega) (by omega)
    rw [← h16.2.2] at hh
    have e16 : F_X9_power N 16 (Int32.ofNat n') (axM Z f) = some (Int64.ofNat (16 ^ n'), axM Z f) := m_power (x := 16) hN (by omega) (by omega) _
    refine CQz.mk0 ?_
    unfold q_misup at hh ⊢
    by_cases c0 : w = 0
    · rw [if_pos c0] at hh ⊢
      rw [if_pos c0]
      have e0 : F_X9_dullWays N (Int32.ofNat n') (Int32.ofNat q') 0 (Int32.ofNat t') (axM Z f) = _ := m_dullWays (fr := 0) hN h1 h3 (by omega) h4 _
      rw [e0, axB_s, e16, axB_s]
      exact hh
    · rw [if_neg c0] at hh ⊢
      rw [if_neg c0, qi_s, m_dullWays hN h1 h2 h4 (Nat.le_refl _), axB_s, e16, axB_s]
      exact hh
  · by_cases c1 : q_odc n p q
    · rw [qc_odc1 h0 c1]
      simp only [qc_needT h0, qc_needO h0, q_rg rfl]
      refine CTz.mk ?_
      by_cases c2 : 0 ≤ t ∧ t ≤ n + 1
      · rw [if_pos c2]
        by_cases c3 : 0 ≤ w ∧ w ≤ 1
        · rw [if_pos c3, if_neg (fun z => c ⟨c1, c2, c3, z⟩)]
        · rw [if_neg c3]
      · rw [if_neg c2]
    · rw [qc_odc0 h0 c1]
      exact CTz.mk rfl
theorem MQz.mkz {α : Type} {o : Option (α × AxS)} {v : α} (Z' : AxS) (h : o = some (v, axM Z' (ax2 f m 0 0))) (z : ZJ m Z Z') : MQz Z m f o v := ⟨Z', _, h, z, ax2_k _ _ _ _, fun k hk => ax2_j _ _ _ _ _ (by unfold scK at hk; omega), fun x hx _ => ax2_n _ _ _ _ hx⟩
theorem qm_mistaken (hN : 2000 < N) (h : HM Z m f ψ l r) (n p q t w part : Int32) : (q_misc n p q t w part → MQz Z m f (F_X10_mistaken N m n p q t w part (axM Z f)) (q_misv n p q t w part)) ∧ (¬ q_misc n p q t w part → MTz Z m f (F_X10_mistaken N m n p q t w part (axM Z f)) 1 1) := by
  have h0 := h.1.1
  unfold F_X10_mistaken F_X10_mistaken_47 F_X10_mistaken_52 F_X10_mistaken_91
  rw [m_pi h0]
  refine ⟨fun ⟨c, ct, cw, cp⟩ => ?_, fun c => ?_⟩
  · rw [m_odc1 c, axB_s, if_neg (by decide), m_in, axB_s, if_pos ct, if_neg (by decide), m_in, axB_s, if_pos cw, if_neg (by decide), m_in, axB_s, if_pos cp, if_neg (by decide), m_is h0, qm_badF N h0]
    obtain ⟨n', p', q', ⟨h1, h2, h3⟩, rfl, rfl, rfl⟩ := q_odcN c
    rw [qi_s] at ct
    obtain ⟨t', h4, rfl⟩ := q_nn ct.1 ct.2 (by omega)
    unfold q_misv
    rw [qi_tn (by omega), qi_tn (by omega), qi_tn (by omega), qi_tn (by omega)]
    have h16 := q_p16 h1
    have hle := q_misup_le h1 h2 h3 h4 w
    have hmul : 16 ^ n' * q_misup n' p' q' t' w ≤ 4294967296 * 4294967296 := Nat.mul_le_mul h16.1 (Nat.le_trans hle h16.1)
    have hh := fun Z' => m_euclid N (axM Z' (ax2 f m 0 0)) part h1 (show q_misup n' p' q' t' w < 2 ^ 63 by omega) (16 ^ n') rfl 66 (16 ^ n') (q_misup n' p' q' t' w) N hle h16.2.1 (by omega) (by omega) (by omega) rfl
    unfold q_misup at hh ⊢
    by_cases c0 : w = 0
    · simp only [if_pos c0] at hh ⊢
      rw [m_whole N h1, axB_s, m_is h0]
      obtain ⟨Z1, e1, z1⟩ := qm_dulls (f := ax2 f m 0 0) hN h.1 h1 h3 h4
      have h5 := (q_odds n' (by omega) q' (by omega) t' (by omega) h4).2
      rw [e1, axB_s, m_whole N h1, axB_s, ← Int64.ofNat_sub _ _ (by omega), show 16 ^ n' - q_dwN n' q' (n' + 1 - t') t' 0 = q_dwN n' q' t' 0 0 by omega]
      exact MQz.mkz Z1 (hh Z1) z1
    · simp only [if_neg c0] at hh ⊢
      rw [m_is h0]
      obtain ⟨Z1, e1, z1⟩ := qm_dulls (f := ax2 f m 0 0) hN h.1 h1 h2 h4
      rw [e1, axB_s, m_whole N h1, axB_s]
      exact MQz.mkz Z1 (hh Z1) z1
  · by_cases c1 : q_odc n p q
    · rw [m_odc1 c1, axB_s, if_neg (by decide), m_in, axB_s]
      by_cases c2 : 0 ≤ t ∧ t ≤ n + 1
      · rw [if_pos c2, if_neg (by decide), m_in, axB_s]
        by_cases c3 : 0 ≤ w ∧ w ≤ 1
        · rw [if_pos c3, if_neg (by decide), m_in, axB_s, if_neg (fun z => c ⟨c1, c2, c3, z⟩), if_pos rfl, m_is h0]
          exact qm_badT1 N h.1 _ _
        · rw [if_neg c3, if_pos rfl, m_is h0]
          exact qm_badT1 N h.1 _ _
      · rw [if_neg c2, if_pos rfl, m_is h0]
        exact qm_badT1 N h.1 _ _
    · rw [m_odc0 c1, axB_s, if_pos rfl, m_is h0]
      exact qm_badT1 N h.1 _ _
/-- the bound by which both are least -/
def q_both (n p q t : Nat) : Nat := q_dwN n q t 0 0 + q_dwN n p (n + 1 - t) t 0
def q_bst (n p q : Nat) : Nat → Nat → Option Nat → Nat → Nat
  | 0, _, _, x => x
  | k + 1, t, none, _ => q_bst n p q k (t + 1) (some (q_both n p q t)) t
  | k + 1, t, some y, x => if q_both n p q t < y then q_bst n p q k (t + 1) (some (q_both n p q t)) t else q_bst n p q k (t + 1) (some y) x
def q_bstL (o : Option Nat) (L : Int64) : Prop := match o with
  | none => L = -1
  | some y => L = Int64.ofNat y ∧ y < 2 ^ 40
theorem q_both_le {n p q t : Nat} (hn : n ≤ 8) (hp : p ≤ 16) (hq : q ≤ 16) (ht : t ≤ n + 1) : q_both n p q t < 2 ^ 40 := by
  have h1 := (q_odds n (by omega) q (by omega) t (by omega) ht).2
  have h2 := (q_odds n (by omega) p (by omega) t (by omega) ht).2
  have h3 := q_p16 hn
  unfold q_both
  omega
theorem qc_best_l (hN : 2000 < N) {n p q : Nat} (hn : n ≤ 8) (hp : p ≤ 16) (hq : q ≤ 16) (S : AxS) : ∀ (k t fu : Nat) (o : Option Nat) (L : Int64) (x : Nat), t + k = n + 2 → k < fu → q_bstL o L → F_X9_best_18 N fu (Int32.ofNat n) (Int32.ofNat p) (Int32.ofNat q) (Int32.ofNat x) L (Int32.ofNat t) S = some (.inl (Int32.ofNat (q_bst n p q k t o x)), S) := by
  intro k
  induction k with
  | zero =>
    intro t fu o L x ht hfu ho
    obtain ⟨fu, rfl⟩ : ∃ q, fu = q + 1 := ⟨fu - 1, by omega⟩
    show F_X9_best_18b N (F_X9_best_18 N fu) (Int32.ofNat n) (Int32.ofNat p) (Int32.ofNat q) (Int32.ofNat x) L (Int32.ofNat t) S = _
    unfold F_X9_best_18b
    rw [qi_s, if_pos (qi_gt (by omega) (by omega))]
    rfl
  | succ k ih =>
    intro t fu o L x ht hfu ho
    obtain ⟨fu, rfl⟩ : ∃ q, fu = q + 1 := ⟨fu - 1, by omega⟩
    show F_X9_best_18b N (F_X9_best_18 N fu) (Int32.ofNat n) (Int32.ofNat p) (Int32.ofNat q) (Int32.ofNat x) L (Int32.ofNat t) S = _
    unfold F_X9_best_18b F_X9_best_64 F_X9_best_72
    have e0 : F_X9_dullWays N (Int32.ofNat n) (Int32.ofNat q) 0 (Int32.ofNat t) S = _ := m_dullWays (fr := 0) hN hn hq (by omega) (show t ≤ n + 1 by omega) _
    have hb := q_both_le hn hp hq (show t ≤ n + 1 by omega)
    rw [qi_s, if_neg (qi_ngt (by omega) (by omega)), e0, axB_s, m_dullWays hN hn hp (show t ≤ n + 1 by omega) (Nat.le_refl _), axB_s, ← Int64.ofNat_add]
    show (if lg_cmp L (-1) = 0 then F_X9_best_18 N fu _ _ _ _ (Int64.ofNat (q_both n p q t)) _ S else if 0 ≤ lg_cmp (Int64.ofNat (q_both n p q t)) L then _ else F_X9_best_18 N fu _ _ _ _ (Int64.ofNat (q_both n p q t)) _ S) = _
    rw [qi_s]
    cases o with
    | none =>
      have ho : L = -1 := ho
      rw [ho, if_pos (by decide)]
      exact ih (t + 1) fu (some (q_both n p q t)) _ t (by omega) (by omega) ⟨rfl, hb⟩
    | some y =>
      obtain ⟨h1, h2⟩ : L = Int64.ofNat y ∧ y < 2 ^ 40 := ho
      rw [h1, qj_cmpm (by omega), if_neg (show ¬ (1 : Int32) = 0 by decide)]
      show _ = some (Sum.inl (Int32.ofNat (if q_both n p q t < y then q_bst n p q k (t + 1) (some (q_both n p q t)) t else q_bst n p q k (t + 1) (some y) x)), S)
      by_cases c : q_both n p q t < y
      · rw [qj_cg (by omega) (by omega) c, if_neg (show ¬ (0 : Int32) ≤ -1 by decide), if_pos c]
        exact ih (t + 1) fu (some (q_both n p q t)) _ t (by omega) (by omega) ⟨rfl, hb⟩
      · rw [if_neg c]
        have : ¬ lg_cmp (Int64.ofNat (q_both n p q t)) (Int64.ofNat y) < 0 := qj_cn (by omega) (by omega) c
        rw [if_pos (Int32.not_lt.mp this)]
        exact ih (t + 1) fu (some y) _ x (by omega) (by omega) ⟨rfl, h2⟩
theorem qc_best (hN : 2000 < N) (h : HC Z b fa sf la sl bo sb f ψ l r) (n p q : Int32) : (q_odc n p q → CQz Z b f (F_X9_best N b n p q (axM Z f)) (Int32.ofNat (q_bst n.toNatClampNeg p.toNatClampNeg q.toNatClampNeg (n.toNatClampNeg + 2) 0 none 0))) ∧ (¬ q_odc n p q → CTz Z b f (F_X9_best N b n p q (axM Z f)) q_iae 15) := by
  have h0 := h.1.1.1
  unfold F_X9_best
  rw [m_is h0]
  refine ⟨fun c => ?_, fun c => ?_⟩
  · rw [qc_odc1 h0 c]
    obtain ⟨n', p', q', ⟨h1, h2, h3⟩, rfl, rfl, rfl⟩ := q_odcN c
    rw [qi_tn (by omega), qi_tn (by omega), qi_tn (by omega)]
    exact CQz.mk0 (qc_best_l hN h1 h2 h3 (axM Z f) (n' + 2) 0 N none (-1) 0 (by omega) (by omega) rfl)
  · rw [qc_odc0 h0 c]
    exact CTz.mk rfl
theorem qm_best_l (hN : 2000 < N) {n p q : Nat} (hn : n ≤ 8) (hp : p ≤ 16) (hq : q ≤ 16) : ∀ (k t fu : Nat) (o : Option Nat) (L : Int64) (x : Nat) (Z : AxS), t + k = n + 2 → k < fu → q_bstL o L → LMo Z m → ∃ Z', F_X10_best_41 N fu m (Int32.ofNat n) (Int32.ofNat p) (Int32.ofNat q) (Int32.ofNat x) L (Int32.ofNat t) (axM Z f) = some (Int32.ofNat (q_bst n p q k t o x), axM Z' f) ∧ ZJ m Z Z' := by
  intro k
  induction k with
  | zero =>
    intro t fu o L x Z ht hfu ho hm
    obtain ⟨fu, rfl⟩ : ∃ q, fu = q + 1 := ⟨fu - 1, by omega⟩
    show ∃ Z', F_X10_best_41b N (F_X10_best_41 N fu) m (Int32.ofNat n) (Int32.ofNat p) (Int32.ofNat q) (Int32.ofNat x) L (Int32.ofNat t) (axM Z f) = _ ∧ _
    unfold F_X10_best_41b
    rw [qi_s, if_pos (qi_gt (by omega) (by omega))]
    exact ⟨Z, rfl, ZJ.rf _ _⟩
  | succ k ih =>
    intro t fu o L x Z ht hfu ho hm
    obtain ⟨fu, rfl⟩ : ∃ q, fu = q + 1 := ⟨fu - 1, by omega⟩
    show ∃ Z', F_X10_best_41b N (F_X10_best_41 N fu) m (Int32.ofNat n) (Int32.ofNat p) (Int32.ofNat q) (Int32.ofNat x) L (Int32.ofNat t) (axM Z f) = _ ∧ _
    unfold F_X10_best_41b F_X10_best_93 F_X10_best_101
    have hb := q_both_le hn hp hq (show t ≤ n + 1 by omega)
    obtain ⟨Z1, e1, z1⟩ := qm_dulls (f := f) hN hm hn hq (show t ≤ n + 1 by omega)
    obtain ⟨Z2, e2, z2⟩ := qm_dulls (f := f) hN (hm.zj z1) hn hp (show t ≤ n + 1 by omega)
    have h5 := (q_odds n (by omega) q (by omega) t (by omega) (show t ≤ n + 1 by omega)).2
    rw [qi_s, if_neg (qi_ngt (by omega) (by omega)), m_whole N hn, axB_s, m_is hm.1, e1, axB_s, m_is (hm.zj z1).1, e2, axB_s, ← Int64.ofNat_sub _ _ (by omega), ← Int64.ofNat_add, show 16 ^ n - q_dwN n q (n + 1 - t) t 0 + q_dwN n p (n + 1 - t) t 0 = q_both n p q t by unfold q_both; omega, qi_s]
    have go : ∀ (o' : Option Nat) L' x', q_bstL o' L' → ∃ Z', F_X10_best_41 N fu m (Int32.ofNat n) (Int32.ofNat p) (Int32.ofNat q) (Int32.ofNat x') L' (Int32.ofNat (t + 1)) (axM Z2 f) = some (Int32.ofNat (q_bst n p q k (t + 1) o' x'), axM Z' f) ∧ ZJ m Z Z' := fun o' L' x' ho' => by
      obtain ⟨Z3, e3, z3⟩ := ih (t + 1) fu o' L' x' Z2 (by omega) (by omega) ho' ((hm.zj z1).zj z2)
      exact ⟨Z3, e3, (z1.tr z2).tr z3⟩
    cases o with
    | none =>
      have ho : L = -1 := ho
      rw [ho, if_pos (by decide)]
      exact go (some (q_both n p q t)) _ t ⟨rfl, hb⟩
    | some y =>
      obtain ⟨h1, h2⟩ : L = Int64.ofNat y ∧ y < 2 ^ 40 := ho
      rw [h1, qj_cmpm (by omega), if_neg (show ¬ (1 : Int32) = 0 by decide)]
      show ∃ Z', _ = some (Int32.ofNat (if q_both n p q t < y then q_bst n p q k (t + 1) (some (q_both n p q t)) t else q_bst n p q k (t + 1) (some y) x), axM Z' f) ∧ _
      by_cases c : q_both n p q t < y
      · rw [qj_cg (by omega) (by omega) c, if_pos (show (-1 : Int32) < 0 by decide), if_pos c]
        exact go (some (q_both n p q t)) _ t ⟨rfl, hb⟩
      · rw [if_neg c]
        have : ¬ lg_cmp (Int64.ofNat (q_both n p q t)) (Int64.ofNat y) < 0 := qj_cn (by omega) (by omega) c
        rw [if_neg this]
        exact go (some y) _ x ⟨rfl, h2⟩
theorem qm_best (hN : 2000 < N) (h : HM Z m f ψ l r) (n p q : Int32) : (q_odc n p q → MQz Z m f (F_X10_best N m n p q (axM Z f)) (Int32.ofNat (q_bst n.toNatClampNeg p.toNatClampNeg q.toNatClampNeg (n.toNatClampNeg + 2) 0 none 0))) ∧ (¬ q_odc n p q → MTz Z m f (F_X10_best N m n p q (axM Z f)) 1 1) := by
  have h0 := h.1.1
  unfold F_X10_best F_X10_best_20
  rw [m_pi h0]
  refine ⟨fun c => ?_, fun c => ?_⟩
  · rw [m_odc1 c, axB_s, if_neg (by decide), m_is h0, qm_badF N h0]
    obtain ⟨n', p', q', ⟨h1, h2, h3⟩, rfl, rfl, rfl⟩ := q_odcN c
    rw [qi_tn (by omega), qi_tn (by omega), qi_tn (by omega)]
    obtain ⟨Z1, e1, z1⟩ := qm_best_l (f := ax2 f m 0 0) hN h1 h2 h3 (n' + 2) 0 N none (-1) 0 Z (by omega) (by omega) rfl h.1
    exact MQz.mkz Z1 e1 z1
  · rw [m_odc0 c, axB_s, if_pos rfl, m_is h0]
    exact qm_badT1 N h.1 _ _
end
