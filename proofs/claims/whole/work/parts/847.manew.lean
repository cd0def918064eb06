/-! a new abbey, the model's -/
section
variable {Z : AxS} {m N : Nat} {f : Nat → Nat → Int32} {φ ψ : QF}
theorem qm_lays_10 (hm : LMo Z m) {i : Nat} (hi : i < 4) (K2 : Nat → Nat → Int32 → Int32 → AxS → Option AxS) : ∀ (n j fu : Nat) (f : Nat → Nat → Int32), j + n = 8 → n < fu → ∃ f', F_X10_lays_10 N K2 fu (m + 7) (m + 12) 4 (Int32.ofNat i) (Int32.ofNat j) (axM Z f) = K2 (m + 7) (m + 12) 4 (Int32.ofNat (i + 1)) (axM Z f') ∧ (∀ k, k < 8 → f' (m + 13 + i) k = if j ≤ k then f (m + 8 + i) k else f (m + 13 + i) k) ∧ ∀ x, x ≠ m + 13 + i → f' x = f x := by
  have s7 : axL Z (m + 7) = some (3, 4) := hm.2.2.1 7 _ rfl
  have s12 : axL Z (m + 12) = some (3, 4) := hm.2.2.1 12 _ rfl
  obtain ⟨pr, sr⟩ : axP Z (m + 7) i = some (m + 8 + i) ∧ axL Z (m + 8 + i) = some (1, 8) := hm.2.2.2 7 4 8 rfl i hi
  obtain ⟨pq, sq⟩ : axP Z (m + 12) i = some (m + 13 + i) ∧ axL Z (m + 13 + i) = some (1, 8) := hm.2.2.2 12 4 8 rfl i hi
  intro n
  induction n with
  | zero =>
    intro j fu f hj hfu
    obtain ⟨fu, rfl⟩ : ∃ q, fu = q + 1 := ⟨fu - 1, by omega⟩
    show ∃ f', F_X10_lays_10b N K2 (F_X10_lays_10 N K2 fu) (m + 7) (m + 12) 4 (Int32.ofNat i) (Int32.ofNat j) (axM Z f) = _ ∧ _
    unfold F_X10_lays_10b
    rw [m_ldrn (t := 0) s12 (by omega) hi (by omega) pq, m_len (t := 0) sq (by omega), if_pos (qi_ge (by omega) (by omega)), qi_s]
    exact ⟨f, rfl, fun k hk => by rw [if_neg (by omega)], fun _ _ => rfl⟩
  | succ n ih =>
    intro j fu f hj hfu
    obtain ⟨fu, rfl⟩ : ∃ q, fu = q + 1 := ⟨fu - 1, by omega⟩
    show ∃ f', F_X10_lays_10b N K2 (F_X10_lays_10 N K2 fu) (m + 7) (m + 12) 4 (Int32.ofNat i) (Int32.ofNat j) (axM Z f) = _ ∧ _
    unfold F_X10_lays_10b
    rw [m_ldrn (t := 0) s12 (by omega) hi (by omega) pq, m_len (t := 0) sq (by omega), if_neg (qi_nge (by omega) (by omega)), m_ldrn (t := 0) s12 (by omega) hi (by omega) pq, m_ldrn (t := 0) s7 (by omega) hi (by omega) pr, m_ldn sr (show j < 8 by omega) (by omega), m_stn sq (show j < 8 by omega) (by omega), qi_s]
    obtain ⟨f2, e2, g2, r2⟩ := ih (j + 1) fu (ax2 f (m + 13 + i) j (f (m + 8 + i) j)) (by omega) (by omega)
    refine ⟨f2, e2, fun k hk => ?_, fun x hx => by rw [r2 x hx, ax2_n _ _ _ _ hx]⟩
    rw [g2 k hk, ax2_n _ _ _ _ (by omega)]
    by_cases c : j + 1 ≤ k
    · rw [if_pos c, if_pos (by omega)]
    · rw [if_neg c]
      by_cases c2 : k = j
      · rw [c2, ax2_k, if_pos (Nat.le_refl _)]
      · rw [ax2_j _ _ _ _ _ c2, if_neg (by omega)]
theorem qm_layf (hN : 2000 < N) (hm : LMo Z m) : ∃ f', F_X10_lays N (m + 7) (m + 12) 4 (axM Z f) = some (axM Z f') ∧ (∀ i, i < 4 → ∀ k, k < 8 → f' (m + 13 + i) k = f (m + 8 + i) k) ∧ ∀ x, ¬ (m + 13 ≤ x ∧ x ≤ m + 16) → f' x = f x := by
  have loop : ∀ (n i fu : Nat) (g : Nat → Nat → Int32), i + n = 4 → n < fu → (∀ x, ¬ (m + 13 ≤ x ∧ x ≤ m + 16) → g x = f x) → (∀ j, j < i → ∀ k, k < 8 → g (m + 13 + j) k = f (m + 8 + j) k) → ∃ f', F_X10_lays_2 N fu (m + 7) (m + 12) 4 (Int32.ofNat i) (axM Z g) = some (axM Z f') ∧ (∀ i, i < 4 → ∀ k, k < 8 → f' (m + 13 + i) k = f (m + 8 + i) k) ∧ ∀ x, ¬ (m + 13 ≤ x ∧ x ≤ m + 16) → f' x = f x := by
    intro n
    induction n with
    | zero =>
      intro i fu g hi hfu hg hd
      obtain ⟨fu, rfl⟩ : ∃ q, fu = q + 1 := ⟨fu - 1, by omega⟩
      show ∃ f', F_X10_lays_2b N (F_X10_lays_2 N fu) (m + 7) (m + 12) 4 (Int32.ofNat i) (axM Z g) = _ ∧ _
      unfold F_X10_lays_2b
      rw [if_pos (show (4 : Int32) ≤ Int32.ofNat i from qi_ge (i := 4) (by omega) (by omega))]
      exact ⟨g, rfl, fun j hj => hd j (by omega), hg⟩
    | succ n ih =>
      intro i fu g hi hfu hg hd
      obtain ⟨fu, rfl⟩ : ∃ q, fu = q + 1 := ⟨fu - 1, by omega⟩
      show ∃ f', F_X10_lays_2b N (F_X10_lays_2 N fu) (m + 7) (m + 12) 4 (Int32.ofNat i) (axM Z g) = _ ∧ _
      unfold F_X10_lays_2b
      rw [if_neg (show ¬ (4 : Int32) ≤ Int32.ofNat i from qi_nge (i := 4) (by omega) (by omega))]
      obtain ⟨g2, e2, h2, r2⟩ := qm_lays_10 (N := N) hm (show i < 4 by omega) (F_X10_lays_2 N fu) 8 0 N g (by omega) (by omega)
      rw [show F_X10_lays_10 N (F_X10_lays_2 N fu) N (m + 7) (m + 12) 4 (Int32.ofNat i) 0 (axM Z g) = _ from e2]
      refine ih (i + 1) fu g2 (by omega) (by omega) (fun x hx => by rw [r2 x (by omega), hg x hx]) fun j hj k hk => ?_
      by_cases c : j = i
      · rw [c, h2 k hk, if_pos (Nat.zero_le _), hg _ (by omega)]
      · rw [r2 _ (by omega)]
        exact hd j (by omega) k hk
  exact loop 4 0 N f (by omega) (by omega) (fun _ _ => rfl) (fun j hj => absurd hj (by omega))
theorem rdG_e6 (f : Nat → Nat → Int32) (a t k : Nat) : rdG f a (t + 6) k = 0 := rfl
theorem rdG_e0 (f : Nat → Nat → Int32) (m k : Nat) : rdG f m 0 k = if k < 7 then f (m + 4) (q_tp k) else 0 := rfl
theorem rdG_e1 (f : Nat → Nat → Int32) (m k : Nat) : rdG f m 1 k = if k < 12 then f (m + 6) k else 0 := rfl
theorem rdG_e2 (f : Nat → Nat → Int32) (m k : Nat) : rdG f m 2 k = if k < (f (m + 4) 0).toNatClampNeg then f (m + 13) k else 0 := rfl
theorem rdG_e3 (f : Nat → Nat → Int32) (m k : Nat) : rdG f m 3 k = if k < (f (m + 4) 1).toNatClampNeg then f (m + 14) k else 0 := rfl
theorem rdG_e4 (f : Nat → Nat → Int32) (m k : Nat) : rdG f m 4 k = if k < (f (m + 4) 2).toNatClampNeg then f (m + 15) k else 0 := rfl
theorem rdG_e5 (f : Nat → Nat → Int32) (m k : Nat) : rdG f m 5 k = if k < (f (m + 4) 3).toNatClampNeg then f (m + 16) k else 0 := rfl
theorem qm_anew (hN : 2000 < N) (hm : LMo Z m) (hF : FAm f m φ) (hw : q_fw φ) : ∃ f', F_X10_beginsAnew N m (axM Z f) = some (axM Z f') ∧ rdG f' m = q_msk φ ∧ rdM f' (m + 440) = q_beg φ (φ 0 0) ∧ (f' m 17 = 0 ∧ f' m 31 = 0 ∧ f' m 32 = 0 ∧ f' m 33 = 0 ∧ f' m 34 = 0) ∧ (∀ x, x ≠ m → ¬ (x = m + 4 ∨ x = m + 6 ∨ (m + 13 ≤ x ∧ x ≤ m + 16) ∨ x = m + 440) → f' x = f x) ∧ ∀ k, k ≠ 17 → k ≠ 31 → k ≠ 32 → k ≠ 33 → k ≠ 34 → f' m k = f m k := by
  have h0 := hm.1
  have p11 : axP Z m 11 = some (m + 3) := hm.2.1 11 3 rfl
  have p12 : axP Z m 12 = some (m + 4) := hm.2.1 12 4 rfl
  have p13 : axP Z m 13 = some (m + 5) := hm.2.1 13 5 rfl
  have p14 : axP Z m 14 = some (m + 6) := hm.2.1 14 6 rfl
  have p15 : axP Z m 15 = some (m + 7) := hm.2.1 15 7 rfl
  have p16 : axP Z m 16 = some (m + 12) := hm.2.1 16 12 rfl
  have p27 : axP Z m 27 = some (m + 440) := hm.2.1 27 440 rfl
  have s3 : axL Z (m + 3) = some (1, 7) := hm.2.2.1 3 _ rfl
  have s4 : axL Z (m + 4) = some (1, 7) := hm.2.2.1 4 _ rfl
  have s5 : axL Z (m + 5) = some (1, 12) := hm.2.2.1 5 _ rfl
  have s6 : axL Z (m + 6) = some (1, 12) := hm.2.2.1 6 _ rfl
  have s440 : axL Z (m + 440) = some (1, 29) := hm.2.2.1 440 _ rfl
  have l1 : ∀ (n i fu : Nat) (f : Nat → Nat → Int32), i + n = 7 → n < fu → ∃ f', F_X10_beginsAnew_2 N fu m (Int32.ofNat i) (axM Z f) = F_X10_beginsAnew_28 N N m 0 (axM Z f') ∧ (∀ k, k < 7 → f' (m + 4) k = if i ≤ k then f (m + 3) k else f (m + 4) k) ∧ ∀ x, x ≠ m + 4 → f' x = f x := by
    intro n
    induction n with
    | zero =>
      intro i fu f hi hfu
      obtain ⟨fu, rfl⟩ : ∃ q, fu = q + 1 := ⟨fu - 1, by omega⟩
      show ∃ f', F_X10_beginsAnew_2b N (F_X10_beginsAnew_2 N fu) m (Int32.ofNat i) (axM Z f) = _ ∧ _
      unfold F_X10_beginsAnew_2b
      rw [if_pos (show (7 : Int32) ≤ Int32.ofNat i from qi_ge (i := 7) (by omega) (by omega))]
      exact ⟨f, rfl, fun k hk => by rw [if_neg (by omega)], fun _ _ => rfl⟩
    | succ n ih =>
      intro i fu f hi hfu
      obtain ⟨fu, rfl⟩ : ∃ q, fu = q + 1 := ⟨fu - 1, by omega⟩
      show ∃ f', F_X10_beginsAnew_2b N (F_X10_beginsAnew_2 N fu) m (Int32.ofNat i) (axM Z f) = _ ∧ _
      unfold F_X10_beginsAnew_2b
      rw [if_neg (show ¬ (7 : Int32) ≤ Int32.ofNat i from qi_nge (i := 7) (by omega) (by omega)), m_gr h0 p12, m_gr h0 p11, m_ldn s3 (show i < 7 by omega) (by omega), m_stn s4 (show i < 7 by omega) (by omega), qi_s]
      obtain ⟨f2, e2, g2, r2⟩ := ih (i + 1) fu (ax2 f (m + 4) i (f (m + 3) i)) (by omega) (by omega)
      refine ⟨f2, e2, fun k hk => ?_, fun x hx => by rw [r2 x hx, ax2_n _ _ _ _ hx]⟩
      rw [g2 k hk, ax2_n _ _ _ _ (by omega)]
      by_cases c : i + 1 ≤ k
      · rw [if_pos c, if_pos (by omega)]
      · rw [if_neg c]
        by_cases c2 : k = i
        · rw [c2, ax2_k, if_pos (Nat.le_refl _)]
        · rw [ax2_j _ _ _ _ _ c2, if_neg (by omega)]
  have l2 : ∀ (n i fu : Nat) (f : Nat → Nat → Int32), i + n = 12 → n < fu → ∃ f', F_X10_beginsAnew_28 N fu m (Int32.ofNat i) (axM Z f) = F_X10_beginsAnew_28b N (fun _ _ _ => none) m 12 (axM Z f') ∧ (∀ k, k < 12 → f' (m + 6) k = if i ≤ k then f (m + 5) k else f (m + 6) k) ∧ ∀ x, x ≠ m + 6 → f' x = f x := by
    intro n
    induction n with
    | zero =>
      intro i fu f hi hfu
      obtain ⟨fu, rfl⟩ : ∃ q, fu = q + 1 := ⟨fu - 1, by omega⟩
      refine ⟨f, ?_, fun k hk => by rw [if_neg (by omega)], fun _ _ => rfl⟩
      show F_X10_beginsAnew_28b N (F_X10_beginsAnew_28 N fu) m (Int32.ofNat i) (axM Z f) = _
      unfold F_X10_beginsAnew_28b
      rw [if_pos (show (12 : Int32) ≤ Int32.ofNat i from qi_ge (i := 12) (by omega) (by omega)), if_pos (show (12 : Int32) ≤ 12 by decide)]
    | succ n ih =>
      intro i fu f hi hfu
      obtain ⟨fu, rfl⟩ : ∃ q, fu = q + 1 := ⟨fu - 1, by omega⟩
      show ∃ f', F_X10_beginsAnew_28b N (F_X10_beginsAnew_28 N fu) m (Int32.ofNat i) (axM Z f) = _ ∧ _
      have e9 : F_X10_beginsAnew_28b N (F_X10_beginsAnew_28 N fu) m (Int32.ofNat i) (axM Z f) = F_X10_beginsAnew_28 N fu m (Int32.ofNat (i + 1)) (axM Z (ax2 f (m + 6) i (f (m + 5) i))) := by
        unfold F_X10_beginsAnew_28b
        rw [if_neg (show ¬ (12 : Int32) ≤ Int32.ofNat i from qi_nge (i := 12) (by omega) (by omega)), m_gr h0 p14, m_gr h0 p13, m_ldn s5 (show i < 12 by omega) (by omega), m_stn s6 (show i < 12 by omega) (by omega), qi_s]
      rw [e9]
      obtain ⟨f2, e2, g2, r2⟩ := ih (i + 1) fu (ax2 f (m + 6) i (f (m + 5) i)) (by omega) (by omega)
      refine ⟨f2, e2, fun k hk => ?_, fun x hx => by rw [r2 x hx, ax2_n _ _ _ _ hx]⟩
      rw [g2 k hk, ax2_n _ _ _ _ (by omega)]
      by_cases c : i + 1 ≤ k
      · rw [if_pos c, if_pos (by omega)]
      · rw [if_neg c]
        by_cases c2 : k = i
        · rw [c2, ax2_k, if_pos (Nat.le_refl _)]
        · rw [ax2_j _ _ _ _ _ c2, if_neg (by omega)]
  obtain ⟨f1, e1, g1, r1⟩ := l1 7 0 N f (by omega) (by omega)
  obtain ⟨f2, e2, g2, r2⟩ := l2 12 0 N f1 (by omega) (by omega)
  obtain ⟨f3, e3, g3, r3⟩ := qm_layf (N := N) (f := f2) hN hm
  have t3 : ∀ k, k < 7 → f3 (m + 4) k = f (m + 3) k := fun k hk => by rw [r3 _ (by omega), r2 _ (by omega), g1 k hk, if_pos (by omega)]
  have x6 : f3 (m + 4) 6 = φ 0 2 := (t3 6 (by omega)).trans (hF.1 2 (by omega))
  have x4 : f3 (m + 4) 4 = φ 0 0 := (t3 4 (by omega)).trans (hF.1 0 (by omega))
  obtain ⟨f4, e4, g4, r4⟩ := qm_begins (N := N) (f := f3) (ψ := φ) (by omega) hm s440 (by omega) (φ 0 0) x6
  unfold F_X10_beginsAnew
  rw [show F_X10_beginsAnew_2 N N m 0 (axM Z f) = _ from e1, show F_X10_beginsAnew_28 N N m 0 (axM Z f1) = _ from e2]
  unfold F_X10_beginsAnew_28b
  rw [if_pos (show (12 : Int32) ≤ 12 by decide), m_gr h0 p15, m_gr h0 p16, e3, axBV_s, m_gr h0 p27, m_gr h0 p12, m_ld7_4 s4, x4, m_is h0, e4, axBV_s, m_pi h0, m_pi h0, m_pi h0, m_pi h0, m_pi h0]
  have fin : ∀ x, x ≠ m → ax2 (ax2 (ax2 (ax2 (ax2 f4 m 17 0) m 31 0) m 32 0) m 33 0) m 34 0 x = f4 x := fun x hx => by simp only [ax2_n _ _ _ _ hx]
  have T : ∀ k, k < 7 → f4 (m + 4) (q_tp k) = φ 0 k := fun k hk => by
    have hk2 : q_tp k < 7 := (by decide : ∀ k, k < 7 → q_tp k < 7) k hk
    rw [r4 _ (by omega), t3 _ hk2]
    exact hF.1 k hk
  obtain ⟨nv, nc, nm, nh, v3, v4, v5, v6, b3, b4, b5, b6⟩ := q_fw_nc hw
  have R : ∀ i, i < 4 → ∀ k, k < (φ 0 (3 + i)).toNatClampNeg → k < 8 → f4 (m + 13 + i) k = φ (2 + i) k := fun i hi k hk hk8 => by
    rw [r4 _ (by omega), g3 i hi k hk8, r2 _ (by omega), r1 _ (by omega)]
    exact hF.2.2 i hi k hk
  have lt8 : ∀ {x : Int32} {c k : Nat}, x = Int32.ofNat c → c ≤ 8 → k < x.toNatClampNeg → k < 8 := fun {x c k} e hc hk => by
    rw [e, qi_tn (by omega)] at hk
    omega
  refine ⟨_, rfl, q_fx (fun k => ?_) (fun k => ?_) (fun k => ?_) (fun k => ?_) (fun k => ?_) (fun k => ?_) (fun t k => ?_), ?_, ⟨?_, ?_, ?_, ?_, ?_⟩, fun x hx hy => ?_, fun k a1 a2 a3 a4 a5 => ?_⟩
  · rw [rdG_e0, q_msk_e0, fin _ (by omega)]
    exact if_c (T k)
  · rw [rdG_e1, q_msk_e1, fin _ (by omega)]
    exact if_c fun hk => by
      rw [r4 _ (by omega), r3 _ (by omega), g2 k hk, if_pos (by omega), r1 _ (by omega)]
      exact hF.2.1 k hk
  · rw [rdG_e2, q_msk_e2, fin _ (by omega), fin _ (by omega), show f4 (m + 4) 0 = φ 0 3 from T 3 (by omega)]
    exact if_c fun hk => R 0 (by omega) k hk (lt8 v3 (by omega) hk)
  · rw [rdG_e3, q_msk_e3, fin _ (by omega), fin _ (by omega), show f4 (m + 4) 1 = φ 0 4 from T 4 (by omega)]
    exact if_c fun hk => R 1 (by omega) k hk (lt8 v4 (by omega) hk)
  · rw [rdG_e4, q_msk_e4, fin _ (by omega), fin _ (by omega), show f4 (m + 4) 2 = φ 0 5 from T 5 (by omega)]
    exact if_c fun hk => R 2 (by omega) k hk (lt8 v5 (by omega) hk)
  · rw [rdG_e5, q_msk_e5, fin _ (by omega), fin _ (by omega), show f4 (m + 4) 3 = φ 0 6 from T 6 (by omega)]
    exact if_c fun hk => R 3 (by omega) k hk (lt8 v6 (by omega) hk)
  · rw [rdG_e6, q_msk_e6]
  · rw [← g4]
    exact rdM_e fun k _ => by rw [fin _ (by omega)]
  · simp [ax2_a]
  · simp [ax2_a]
  · simp [ax2_a]
  · simp [ax2_a]
  · simp [ax2_a]
  · rw [fin x hx, r4 x (by omega), r3 x (by omega), r2 x (by omega), r1 x (by omega)]
  · rw [ax2_j _ _ _ _ _ a5, ax2_j _ _ _ _ _ a4, ax2_j _ _ _ _ _ a3, ax2_j _ _ _ _ _ a2, ax2_j _ _ _ _ _ a1, r4 m (by omega), r3 m (by omega), r2 m (by omega), r1 m (by omega)]
end
