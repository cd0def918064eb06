/-! before the clauses, behind them -/
def q_f0 : QF := fun t k => if t = 0 then (if k = 0 then 100 else if k = 1 then 5 else 0) else 0
theorem q_f0_w : q_fw q_f0 := by
  refine ⟨⟨0, 0, 0, 0, rfl, rfl, rfl, rfl, by omega, by omega, by omega, by omega, fun v hv => absurd hv (by omega), fun v hv => absurd hv (by omega), fun v hv => absurd hv (by omega), fun v hv => absurd hv (by omega)⟩, ⟨5, by omega, rfl⟩, ⟨100, by omega, rfl⟩, ⟨0, by omega, rfl⟩, fun m _ => ⟨0, by omega, rfl⟩⟩
section
variable {Z : AxS} {b u sf fa la sl bo sb m N n : Nat} {f : Nat → Nat → Int32} {φ ψ : QF}
theorem qc_clear_l (hf : LFa Z sf) : ∀ (n i fu : Nat) (f : Nat → Nat → Int32), i + n = 12 → n < fu → ∃ f', F_X1_clear_38 N fu sf (Int32.ofNat i) (axM Z f) = some (axM Z f') ∧ (∀ k, k < 12 → f' (sf + 1) k = if i ≤ k then 0 else f (sf + 1) k) ∧ ∀ x, x ≠ sf + 1 → f' x = f x := by
  obtain ⟨h0, ⟨p7, s7⟩, -⟩ := hf
  intro n
  induction n with
  | zero =>
    intro i fu f hi hfu
    obtain ⟨fu, rfl⟩ : ∃ q, fu = q + 1 := ⟨fu - 1, by omega⟩
    show ∃ f', F_X1_clear_38b N (F_X1_clear_38 N fu) sf (Int32.ofNat i) (axM Z f) = _ ∧ _
    unfold F_X1_clear_38b
    rw [m_gr h0 p7, m_len (t := 0) s7 (by omega), if_pos (qi_ge (by omega) (by omega))]
    exact ⟨f, rfl, fun k hk => by rw [if_neg (by omega)], fun _ _ => rfl⟩
  | succ n ih =>
    intro i fu f hi hfu
    obtain ⟨fu, rfl⟩ : ∃ q, fu = q + 1 := ⟨fu - 1, by omega⟩
    show ∃ f', F_X1_clear_38b N (F_X1_clear_38 N fu) sf (Int32.ofNat i) (axM Z f) = _ ∧ _
    unfold F_X1_clear_38b
    rw [m_gr h0 p7, m_len (t := 0) s7 (by omega), if_neg (qi_nge (by omega) (by omega)), m_gr h0 p7, m_stn s7 (show i < 12 by omega) (by omega), qi_s]
    obtain ⟨f2, e2, g2, r2⟩ := ih (i + 1) fu (ax2 f (sf + 1) i 0) (by omega) (by omega)
    refine ⟨f2, e2, fun k hk => ?_, fun x hx => by rw [r2 x hx, ax2_n _ _ _ _ hx]⟩
    rw [g2 k hk]
    by_cases c : i + 1 ≤ k
    · rw [if_pos c, if_pos (by omega)]
    · rw [if_neg c]
      by_cases c2 : k = i
      · rw [c2, ax2_k, if_pos (Nat.le_refl _)]
      · rw [ax2_j _ _ _ _ _ c2, if_neg (by omega)]
theorem qc_clear (hN : 200 < N) (hf : LFa Z sf) : ∃ f', F_X1_clear N sf (axM Z f) = some (axM Z f') ∧ FAc f' sf q_f0 ∧ ∀ x, x ≠ sf → x ≠ sf + 1 → f' x = f x := by
  have h0 := hf.1
  unfold F_X1_clear
  rw [m_pi h0, m_pi h0, m_pi h0, m_pi h0, m_pi h0, m_pi h0, m_pi h0]
  obtain ⟨f2, e2, g2, r2⟩ := qc_clear_l (N := N) hf 12 0 N (ax2 (ax2 (ax2 (ax2 (ax2 (ax2 (ax2 f sf 0 100) sf 1 5) sf 2 0) sf 3 0) sf 4 0) sf 5 0) sf 6 0) (by omega) (by omega)
  refine ⟨f2, e2, ⟨fun k hk => ?_, fun k hk => ?_, fun i hi k hk => ?_⟩, fun x a c => by rw [r2 x c]; simp only [ax2_n _ _ _ _ a]⟩
  · rw [r2 sf (by omega)]
    rcases (show k = 0 ∨ k = 1 ∨ k = 2 ∨ k = 3 ∨ k = 4 ∨ k = 5 ∨ k = 6 by omega) with rfl | rfl | rfl | rfl | rfl | rfl | rfl <;> simp [ax2_a, q_f0]
  · rw [g2 k hk, if_pos (by omega)]
    rfl
  · exfalso
    have : q_f0 0 (3 + i) = 0 := by
      unfold q_f0
      rw [if_pos rfl, if_neg (by omega), if_neg (by omega)]
    rw [this] at hk
    exact absurd hk (Nat.not_lt_zero _)
theorem qc_bclear_l (hb : LBo Z bo) : ∀ (n i fu : Nat) (f : Nat → Nat → Int32), i + n = 60 → n < fu → ∃ f', F_X0_clear_7 N fu bo (Int32.ofNat i) (axM Z f) = some (axM Z f') ∧ (∀ k, k < 60 → f' (bo + 1) k = if i ≤ k then -1 else f (bo + 1) k) ∧ ∀ x, x ≠ bo + 1 → f' x = f x := by
  obtain ⟨h0, p7, s7⟩ := hb
  intro n
  induction n with
  | zero =>
    intro i fu f hi hfu
    obtain ⟨fu, rfl⟩ : ∃ q, fu = q + 1 := ⟨fu - 1, by omega⟩
    show ∃ f', F_X0_clear_7b N (F_X0_clear_7 N fu) bo (Int32.ofNat i) (axM Z f) = _ ∧ _
    unfold F_X0_clear_7b
    rw [m_gr h0 p7, m_len (t := 0) s7 (by omega), if_pos (qi_ge (by omega) (by omega))]
    exact ⟨f, rfl, fun k hk => by rw [if_neg (by omega)], fun _ _ => rfl⟩
  | succ n ih =>
    intro i fu f hi hfu
    obtain ⟨fu, rfl⟩ : ∃ q, fu = q + 1 := ⟨fu - 1, by omega⟩
    show ∃ f', F_X0_clear_7b N (F_X0_clear_7 N fu) bo (Int32.ofNat i) (axM Z f) = _ ∧ _
    unfold F_X0_clear_7b
    rw [m_gr h0 p7, m_len (t := 0) s7 (by omega), if_neg (qi_nge (by omega) (by omega)), m_gr h0 p7, m_stn s7 (show i < 60 by omega) (by omega), qi_s]
    obtain ⟨f2, e2, g2, r2⟩ := ih (i + 1) fu (ax2 f (bo + 1) i (-1)) (by omega) (by omega)
    refine ⟨f2, e2, fun k hk => ?_, fun x hx => by rw [r2 x hx, ax2_n _ _ _ _ hx]⟩
    rw [g2 k hk]
    by_cases c : i + 1 ≤ k
    · rw [if_pos c, if_pos (by omega)]
    · rw [if_neg c]
      by_cases c2 : k = i
      · rw [c2, ax2_k, if_pos (Nat.le_refl _)]
      · rw [ax2_j _ _ _ _ _ c2, if_neg (by omega)]
theorem qc_bclear (hN : 200 < N) (hb : LBo Z bo) : ∃ f', F_X0_clear N bo (axM Z f) = some (axM Z f') ∧ clB f' bo (fun _ => -1) 0 ∧ ∀ x, x ≠ bo → x ≠ bo + 1 → f' x = f x := by
  unfold F_X0_clear
  rw [m_pi hb.1]
  obtain ⟨f2, e2, g2, r2⟩ := qc_bclear_l (N := N) hb 60 0 N (ax2 f bo 1 0) (by omega) (by omega)
  exact ⟨f2, e2, ⟨by rw [r2 bo (by omega), ax2_k]; rfl, fun k hk => by rw [g2 k hk, if_pos (by omega)]⟩, fun x a c => by rw [r2 x c, ax2_n _ _ _ _ a]⟩
theorem qc_emit {k : Nat} (hl : LLa Z la) (h : f la 3 = Int32.ofNat k) (hk : k < 150) (v : Int32) : F_X4_emit N la v (axM Z f) = some (axM Z (ax2 (ax2 f (la + 1) k v) la 3 (Int32.ofNat (k + 1)))) := by
  obtain ⟨h0, ⟨p0, s0⟩, -⟩ := hl
  unfold F_X4_emit
  rw [m_gr h0 p0, m_gi h0, h, m_putn N s0 hk (by omega), axBV_s, m_gi h0, ax2_n _ _ _ _ (show la ≠ la + 1 by omega), h, m_pi h0, qi_s]
theorem qc_tenth (hl : LLa Z la) : ∃ f', F_X4_tenth N la (axM Z f) = some (axM Z f') ∧ clLaw f' la [] ∧ ∀ x, x ≠ la → x ≠ la + 1 → f' x = f x := by
  have h0 := hl.1
  unfold F_X4_tenth
  rw [m_pi h0, m_is h0, qc_emit (f := ax2 f la 3 0) (k := 0) hl (ax2_k _ _ _ _) (by omega), axBV_s, m_is h0, qc_emit (k := 1) hl (ax2_k _ _ _ _) (by omega), axBV_s, m_is h0, qc_emit (k := 2) hl (ax2_k _ _ _ _) (by omega), axBV_s]
  refine ⟨_, rfl, ⟨ax2_k _ _ _ _, by decide, fun k x hx => ?_⟩, fun x a c => by simp only [ax2_n _ _ _ _ a, ax2_n _ _ _ _ c]⟩
  have e : ∀ k, ax2 (ax2 (ax2 (ax2 (ax2 (ax2 (ax2 f la 3 0) (la + 1) 0 1000) la 3 (Int32.ofNat (0 + 1))) (la + 1) 1 10) la 3 (Int32.ofNat (1 + 1))) (la + 1) 2 2003) la 3 (Int32.ofNat (2 + 1)) (la + 1) k = if k = 2 then 2003 else if k = 1 then 10 else if k = 0 then 1000 else f (la + 1) k := fun k => by
    rw [ax2_n _ _ _ _ (show la + 1 ≠ la by omega), ax2_a, ax2_n _ _ _ _ (show la + 1 ≠ la by omega), ax2_a, ax2_n _ _ _ _ (show la + 1 ≠ la by omega), ax2_a, ax2_n _ _ _ _ (show la + 1 ≠ la by omega)]
  rw [e]
  match k, hx with
  | 0, hx => exact Option.some.inj hx
  | 1, hx => exact Option.some.inj hx
  | 2, hx => exact Option.some.inj hx
  | k + 3, hx => exact absurd hx (by intro q; cases q)
-- the model
theorem qm_tells_45 (hm : LMo Z m) : ∀ (n i fu : Nat) (f : Nat → Nat → Int32), i + n = 12 → n < fu → ∃ f', F_X10_tellsNothing_45 N fu m (Int32.ofNat i) (axM Z f) = some (axM Z f') ∧ (∀ k, k < 12 → f' (m + 5) k = if i ≤ k then 0 else f (m + 5) k) ∧ ∀ x, x ≠ m + 5 → f' x = f x := by
  have h0 := hm.1
  have p13 : axP Z m 13 = some (m + 5) := hm.2.1 13 5 rfl
  have s5 : axL Z (m + 5) = some (1, 12) := hm.2.2.1 5 _ rfl
  intro n
  induction n with
  | zero =>
    intro i fu f hi hfu
    obtain ⟨fu, rfl⟩ : ∃ q, fu = q + 1 := ⟨fu - 1, by omega⟩
    show ∃ f', F_X10_tellsNothing_45b N (F_X10_tellsNothing_45 N fu) m (Int32.ofNat i) (axM Z f) = _ ∧ _
    unfold F_X10_tellsNothing_45b
    rw [if_pos (show (12 : Int32) ≤ Int32.ofNat i from qi_ge (i := 12) (by omega) (by omega))]
    exact ⟨f, rfl, fun k hk => by rw [if_neg (by omega)], fun _ _ => rfl⟩
  | succ n ih =>
    intro i fu f hi hfu
    obtain ⟨fu, rfl⟩ : ∃ q, fu = q + 1 := ⟨fu - 1, by omega⟩
    show ∃ f', F_X10_tellsNothing_45b N (F_X10_tellsNothing_45 N fu) m (Int32.ofNat i) (axM Z f) = _ ∧ _
    unfold F_X10_tellsNothing_45b
    rw [if_neg (show ¬ (12 : Int32) ≤ Int32.ofNat i from qi_nge (i := 12) (by omega) (by omega)), m_gr h0 p13, m_stn s5 (show i < 12 by omega) (by omega), qi_s]
    obtain ⟨f2, e2, g2, r2⟩ := ih (i + 1) fu (ax2 f (m + 5) i 0) (by omega) (by omega)
    refine ⟨f2, e2, fun k hk => ?_, fun x hx => by rw [r2 x hx, ax2_n _ _ _ _ hx]⟩
    rw [g2 k hk]
    by_cases c : i + 1 ≤ k
    · rw [if_pos c, if_pos (by omega)]
    · rw [if_neg c]
      by_cases c2 : k = i
      · rw [c2, ax2_k, if_pos (Nat.le_refl _)]
      · rw [ax2_j _ _ _ _ _ c2, if_neg (by omega)]
theorem qm_tells (hN : 200 < N) (hm : LMo Z m) : ∃ f', F_X10_tellsNothing N m (axM Z f) = some (axM Z f') ∧ FAm f' m q_f0 ∧ ∀ x, x ≠ m + 3 → x ≠ m + 5 → f' x = f x := by
  have h0 := hm.1
  have p11 : axP Z m 11 = some (m + 3) := hm.2.1 11 3 rfl
  have s3 : axL Z (m + 3) = some (1, 7) := hm.2.2.1 3 _ rfl
  have st : ∀ (fu i : Nat) (f : Nat → Nat → Int32), i < 4 → F_X10_tellsNothing_2 N (fu + 1) m (Int32.ofNat i) (axM Z f) = F_X10_tellsNothing_2 N fu m (Int32.ofNat (i + 1)) (axM Z (ax2 f (m + 3) i 0)) := fun fu i f hi => by
    show F_X10_tellsNothing_2b N (F_X10_tellsNothing_2 N fu) m (Int32.ofNat i) (axM Z f) = _
    unfold F_X10_tellsNothing_2b
    rw [if_neg (show ¬ (4 : Int32) ≤ Int32.ofNat i from qi_nge (i := 4) (by omega) (by omega)), m_gr h0 p11, m_stn s3 (show i < 7 by omega) (by omega), qi_s]
  obtain ⟨M, rfl⟩ : ∃ M, N = M + 5 := ⟨N - 5, by omega⟩
  have e0 : F_X10_tellsNothing (M + 5) m (axM Z f) = F_X10_tellsNothing_2 (M + 5) (M + 1) m (Int32.ofNat 4) (axM Z (ax2 (ax2 (ax2 (ax2 f (m + 3) 0 0) (m + 3) 1 0) (m + 3) 2 0) (m + 3) 3 0)) := by
    unfold F_X10_tellsNothing
    rw [show F_X10_tellsNothing_2 (M + 5) (M + 5) m 0 (axM Z f) = _ from st (M + 4) 0 f (by omega), st (M + 3) 1 _ (by omega), st (M + 2) 2 _ (by omega), st (M + 1) 3 _ (by omega)]
  rw [e0]
  have e1 : ∀ g, F_X10_tellsNothing_2 (M + 5) (M + 1) m (Int32.ofNat 4) (axM Z g) = F_X10_tellsNothing_45 (M + 5) (M + 5) m 0 (axM Z (ax2 (ax2 (ax2 g (m + 3) 4 100) (m + 3) 5 5) (m + 3) 6 0)) := fun g => by
    show F_X10_tellsNothing_2b (M + 5) (F_X10_tellsNothing_2 (M + 5) M) m 4 (axM Z g) = _
    unfold F_X10_tellsNothing_2b
    rw [if_pos (show (4 : Int32) ≤ 4 by decide), m_gr h0 p11, m_st7_4 s3, m_gr h0 p11, m_st7_5 s3, m_gr h0 p11, m_st7_6 s3]
  rw [e1]
  obtain ⟨f2, e2, g2, r2⟩ := qm_tells_45 (N := M + 5) hm 12 0 (M + 5) (ax2 (ax2 (ax2 (ax2 (ax2 (ax2 (ax2 f (m + 3) 0 0) (m + 3) 1 0) (m + 3) 2 0) (m + 3) 3 0) (m + 3) 4 100) (m + 3) 5 5) (m + 3) 6 0) (by omega) (by omega)
  refine ⟨f2, e2, ⟨fun k hk => ?_, fun k hk => ?_, fun i hi k hk => ?_⟩, fun x a c => by rw [r2 x c]; simp only [ax2_n _ _ _ _ a]⟩
  · show f2 (m + 3) (q_tp k) = q_f0 0 k
    rw [r2 (m + 3) (by omega)]
    rcases (show k = 0 ∨ k = 1 ∨ k = 2 ∨ k = 3 ∨ k = 4 ∨ k = 5 ∨ k = 6 by omega) with rfl | rfl | rfl | rfl | rfl | rfl | rfl <;> simp [ax2_a, q_f0, q_tp]
  · show f2 (m + 5) k = q_f0 1 k
    rw [g2 k hk, if_pos (by omega)]
    rfl
  · exfalso
    have : q_f0 0 (3 + i) = 0 := by
      unfold q_f0
      rw [if_pos rfl, if_neg (by omega), if_neg (by omega)]
    rw [this] at hk
    exact absurd hk (Nat.not_lt_zero _)
end
