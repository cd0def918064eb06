/-! fits: the model -/
def scS (m x : Nat) : Prop := x = m + 357 ∨ x = m + 358 ∨ x = m + 441 ∨ x = m + 464
theorem scS_M {m x : Nat} (h : ¬ scM m x) : ¬ scS m x := by
  unfold scM at h
  unfold scS
  omega
def q_mstep (ψ : QF) (rt s : Int32) (i : Nat) (μ : QR) : QR := fun k => match k with
  | 0 => if i % 12 = 11 then q_min 99999 (μ 0 + μ 0 * rt / 100) else μ 0
  | 1 => q_min 9999 (μ 1 + ψ 1 (i % 12))
  | 2 => μ 2 + 1
  | 3 => if s = 0 then μ 3 + 1 else 0
  | k + 4 => μ (k + 4)
theorem q_mstep_eq {ψ : QF} {rt s : Int32} {i : Nat} {μ ρ : QR} (hi : i < 60) (hz : q_fz i ρ) (h : ∀ k, k ≠ 9 → μ k = ρ k) : ∀ k, k ≠ 9 → q_mstep ψ rt s i μ k = q_turn ψ rt s ρ k := by
  obtain ⟨h4, h5, h6, h7, h8, h11, h12, h2⟩ := hz
  have hmon : q_mon (q_set ρ 9 (ρ 9 + s)) = Int32.ofNat (i % 12) := q_mon_n (show q_set ρ 9 (ρ 9 + s) 2 = Int32.ofNat i from h2) (by omega)
  intro k hk
  rcases q_pl k with rfl | rfl | rfl | rfl | rfl | rfl | rfl | rfl | rfl | rfl | rfl | rfl | rfl | hk13
  · show (if i % 12 = 11 then q_min 99999 (μ 0 + μ 0 * rt / 100) else μ 0) = if q_mon (q_set ρ 9 (ρ 9 + s)) = 11 then q_min 99999 (ρ 0 + ρ 0 * rt / 100) else ρ 0
    rw [hmon, h 0 (by omega)]
    by_cases c : i % 12 = 11
    · rw [if_pos c, if_pos (by rw [c]; rfl)]
    · rw [if_neg c, if_neg (show ¬ Int32.ofNat (i % 12) = 11 from qi_ne (j := 11) c (by omega) (by omega))]
  · show q_min 9999 (μ 1 + ψ 1 (i % 12)) = q_min 9999 (ρ 1 + ψ 1 (q_mon (q_set ρ 9 (ρ 9 + s))).toNatClampNeg)
    rw [hmon, qi_tn (by omega), h 1 (by omega)]
  · show μ 2 + 1 = ρ 2 + 1
    rw [h 2 (by omega)]
  · show (if s = 0 then μ 3 + 1 else 0) = if s = 0 then ρ 3 + 1 else 0
    rw [h 3 (by omega)]
  · show μ 4 = 0
    rw [h 4 (by omega), h4]
  · show μ 5 = 0
    rw [h 5 (by omega), h5]
  · show μ 6 = if q_max 0 (ρ 7 - 1) = 0 then 0 else ρ 6
    rw [h 6 (by omega), h6, ite_self]
  · show μ 7 = q_max 0 (ρ 7 - 1)
    rw [h 7 (by omega), h7]
    decide
  · show μ 8 = if ρ 7 = 1 then ρ 6 else 0
    rw [h 8 (by omega), h8, h6, ite_self]
  · exact absurd rfl hk
  · show μ 10 = ρ 10
    exact h 10 (by omega)
  · show μ 11 = 0
    rw [h 11 (by omega), h11]
  · show μ 12 = ρ 12
    exact h 12 (by omega)
  · obtain ⟨j, rfl⟩ : ∃ j, k = j + 13 := ⟨k - 13, by omega⟩
    show μ (j + 13) = q_set ρ 9 (ρ 9 + s) (j + 13)
    rw [q_set_t _ _ (by omega)]
    exact h _ (by omega)
section
variable {Z : AxS} {b m fa sf la sl bo sb N B : Nat} {ψ : QF} {l : QL} {r ρ : QR} {f f0 : Nat → Nat → Int32}
theorem HM.ss (h : HM Z m f0 ψ l r) (hf : ∀ x, ¬ scS m x → f x = f0 x) : HM Z m f ψ l r := h.sc (fun x hx => hf x (scS_M hx))
theorem mlB.ss {β : QR} {nl : Nat} (h : mlB f0 m β nl) (hf : ∀ x, ¬ scS m x → f x = f0 x) : mlB f m β nl := by
  obtain ⟨h1, h2, I, h3, h4⟩ := h
  have G : ∀ x, ¬ scS m x → f x = f0 x := hf
  unfold scS at G
  exact ⟨by rw [G m (by omega)]; exact h1, h2, I, fun k hk => by rw [G (m + 340 + k) (by omega)]; exact h3 k hk, h4⟩
theorem mlB.sc {β : QR} {nl : Nat} (h : mlB f0 m β nl) (hf : ∀ x, ¬ scM m x → f x = f0 x) : mlB f m β nl := by
  obtain ⟨h1, h2, I, h3, h4⟩ := h
  have G : ∀ x, ¬ scM m x → f x = f0 x := hf
  unfold scM at G
  exact ⟨by rw [G m (by omega)]; exact h1, h2, I, fun k hk => by rw [G (m + 340 + k) (by omega)]; exact h3 k hk, h4⟩
theorem mlB.t0 {β : QR} {nl : Nat} (h : mlB f m β nl) : mlB (ax2 f m 0 0) m β nl := by
  obtain ⟨h1, h2, I, h3, h4⟩ := h
  exact ⟨by rw [ax2_j _ _ _ _ _ (by omega)]; exact h1, h2, I, fun k hk => by rw [ax2_n _ _ _ _ (by omega)]; exact h3 k hk, h4⟩
theorem qm_strikes_l (hN : 200 < N) (o rt : Int32) : ∀ (n i fu : Nat) (f : Nat → Nat → Int32) (μ : QR), i + n = 60 → n < fu → HM Z m f ψ l r → rdM f (m + 441) = μ → (∀ k, k ≠ 9 → μ k = q_fr ψ l o rt i k) → (∀ j, j < i → f (m + 464) j = q_fs ψ l o rt j) → ∃ f', F_X10_strikesBy_11 N fu m rt (Int32.ofNat i) (axM Z f) = some (axM Z f') ∧ (∀ j, j < 60 → f' (m + 464) j = q_fs ψ l o rt j) ∧ ∀ x, ¬ scS m x → f' x = f x := by
  intro n
  induction n with
  | zero =>
    intro i fu f μ hi hfu h hμ he hs
    obtain ⟨fu, rfl⟩ : ∃ q, fu = q + 1 := ⟨fu - 1, by omega⟩
    show ∃ f', F_X10_strikesBy_11b N (F_X10_strikesBy_11 N fu) m rt (Int32.ofNat i) (axM Z f) = _ ∧ _
    unfold F_X10_strikesBy_11b
    rw [if_pos (show (60 : Int32) ≤ Int32.ofNat i from qi_ge (i := 60) (by omega) (by omega))]
    exact ⟨f, rfl, fun j hj => hs j (by omega), fun _ _ => rfl⟩
  | succ n ih =>
    intro i fu f μ hi hfu h hμ he hs
    obtain ⟨fu, rfl⟩ : ∃ q, fu = q + 1 := ⟨fu - 1, by omega⟩
    show ∃ f', F_X10_strikesBy_11b N (F_X10_strikesBy_11 N fu) m rt (Int32.ofNat i) (axM Z f) = _ ∧ _
    have hm := h.1
    have h0 := hm.1
    have s4 := h.s441
    have p39 : axP Z m 39 = some (m + 464) := hm.2.1 39 464 rfl
    have s464 : axL Z (m + 464) = some (1, 60) := hm.2.2.1 464 _ rfl
    have p14 : axP Z m 14 = some (m + 6) := hm.2.1 14 6 rfl
    have s6 : axL Z (m + 6) = some (1, 12) := hm.2.2.1 6 _ rfl
    have hz := q_fz_fr ψ l o rt i
    have m12 : μ 12 = 0 := by rw [he 12 (by omega)]; exact hz.2.2.2.2.2.2.1
    obtain ⟨f1, e1, fr1⟩ := qm_strokesOf (f := f) (a := m + 441) hN hm s4.2.1 (by omega) h.2.2.2.1 h.2.2.2.2.1
    rw [hμ, m12, q_str_c 0 he] at e1
    have eS : q_str l (q_fr ψ l o rt i) 0 = q_fs ψ l o rt i := rfl
    rw [eS] at e1
    have F1 : ∀ x, ¬ scS m x → f1 x = f x := fun x hx => fr1 x (by unfold scS at hx; omega) (by unfold scS at hx; omega)
    have g1 : rdM f1 (m + 441) = μ := by rw [← hμ]; exact rdM_e (fun j _ => by rw [fr1 _ (by omega) (by omega)])
    have hmod : Int32.ofNat i - Int32.ofNat i / 12 * 12 = Int32.ofNat (i % 12) := qi_mod (by omega)
    unfold F_X10_strikesBy_11b F_X10_strikesBy_57 F_X10_strikesBy_103
    rw [if_neg (show ¬ (60 : Int32) ≤ Int32.ofNat i from qi_nge (i := 60) (by omega) (by omega)), m_gr h0 p39, m_gr h0 s4.1, m_is h0, e1, axB_s, m_stn s464 (show i < 60 by omega) (by omega), m_gr h0 s4.1, m_gr h0 p39, m_ldn s464 (show i < 60 by omega) (by omega), ax2_k, m_gr h0 s4.1]
    have go : ∀ w, w = (if q_fs ψ l o rt i = 0 then μ 3 + 1 else 0) → ∃ f', (ax_st (axM Z (ax2 f1 (m + 464) i (q_fs ψ l o rt i))) (m + 441) 3 w fun T1 => ax_gr T1 m 10 28 fun a2 => ax_gr T1 m 10 28 fun a3 => ax_ld T1 a3 1 fun x4 => ax_gr T1 m 10 14 fun a5 => ax_ne 12 <| ax_ld T1 a5 (Int32.ofNat i - Int32.ofNat i / 12 * 12) fun x6 => axB (F_X10_less N 9999 (x4 + x6) T1) fun x8 T7 => ax_st T7 a2 1 x8 fun T9 => ax_ne 12 <| if (Int32.ofNat i - Int32.ofNat i / 12 * 12) = 11 then (ax_gr T9 m 10 28 fun a10 => axBV (F_X10_earns N a10 rt T9) fun T11 => ax_gr T11 m 10 28 fun a1 => ax_ld T11 a1 2 fun x2 => ax_st T11 a1 2 (x2 + 1) fun T3 => F_X10_strikesBy_11 N fu m rt (Int32.ofNat i + 1) T3) else (ax_gr T9 m 10 28 fun a1 => ax_ld T9 a1 2 fun x2 => ax_st T9 a1 2 (x2 + 1) fun T3 => F_X10_strikesBy_11 N fu m rt (Int32.ofNat i + 1) T3)) = some (axM Z f') ∧ (∀ j, j < 60 → f' (m + 464) j = q_fs ψ l o rt j) ∧ ∀ x, ¬ scS m x → f' x = f x := by
      intro w hw
      have G0 : ∀ k, k < 29 → ax2 f1 (m + 464) i (q_fs ψ l o rt i) (m + 441) k = μ k := fun k hk => by rw [ax2_n _ _ _ _ (by omega), rdM_k f1 (m + 441) hk, g1]
      have G6 : ax2 (ax2 f1 (m + 464) i (q_fs ψ l o rt i)) (m + 441) 3 w (m + 6) (i % 12) = ψ 1 (i % 12) := by
        rw [ax2_n _ _ _ _ (by omega), ax2_n _ _ _ _ (by omega), F1 _ (by unfold scS; omega)]
        exact rdG_1 h.2.1 (by omega)
      rw [m_st29_3 s4.2.1, hmod, m_gr h0 s4.1, m_gr h0 s4.1, m_ld29_1 s4.2.1, m_gr h0 p14, m_ne (show (12 : Int32) ≠ 0 by decide), m_ldn s6 (show i % 12 < 12 by omega) (by omega), G6, ax2_j _ _ _ _ _ (show 1 ≠ 3 by omega), G0 1 (by omega), m_less, axB_s, m_st29_1 s4.2.1, m_ne (show (12 : Int32) ≠ 0 by decide)]
      have R1 : rdM (ax2 (ax2 (ax2 f1 (m + 464) i (q_fs ψ l o rt i)) (m + 441) 3 w) (m + 441) 1 (q_min 9999 (μ 1 + ψ 1 (i % 12)))) (m + 441) = q_set (q_set μ 3 w) 1 (q_min 9999 (μ 1 + ψ 1 (i % 12))) := by
        rw [rdM_w _ _ _ (by omega), rdM_w _ _ _ (by omega), rdM_n _ _ (by omega), g1]
      have X1 : ∀ x, ¬ scS m x → ax2 (ax2 (ax2 f1 (m + 464) i (q_fs ψ l o rt i)) (m + 441) 3 w) (m + 441) 1 (q_min 9999 (μ 1 + ψ 1 (i % 12))) x = f x := fun x hx => by
        rw [ax2_n _ _ _ _ (by unfold scS at hx; omega), ax2_n _ _ _ _ (by unfold scS at hx; omega), ax2_n _ _ _ _ (by unfold scS at hx; omega), F1 x hx]
      have Y1 : ∀ j, j < i + 1 → ax2 (ax2 (ax2 f1 (m + 464) i (q_fs ψ l o rt i)) (m + 441) 3 w) (m + 441) 1 (q_min 9999 (μ 1 + ψ 1 (i % 12))) (m + 464) j = q_fs ψ l o rt j := fun j hj => by
        rw [ax2_n _ _ _ _ (by omega), ax2_n _ _ _ _ (by omega), ax2_a]
        by_cases c : j = i
        · rw [if_pos c, c]
        · rw [if_neg c, fr1 _ (by omega) (by omega)]
          exact hs j (by omega)
      generalize ax2 (ax2 (ax2 f1 (m + 464) i (q_fs ψ l o rt i)) (m + 441) 3 w) (m + 441) 1 (q_min 9999 (μ 1 + ψ 1 (i % 12))) = g2 at R1 X1 Y1 ⊢
      have fin : ∀ (g : Nat → Nat → Int32), rdM g (m + 441) = (fun k => if k = 0 then (if i % 12 = 11 then q_min 99999 (μ 0 + μ 0 * rt / 100) else μ 0) else q_set (q_set μ 3 w) 1 (q_min 9999 (μ 1 + ψ 1 (i % 12))) k) → (∀ x, ¬ scS m x → g x = f x) → (∀ j, j < i + 1 → g (m + 464) j = q_fs ψ l o rt j) → ∃ f', (ax_gr (axM Z g) m 10 28 fun a1 => ax_ld (axM Z g) a1 2 fun x2 => ax_st (axM Z g) a1 2 (x2 + 1) fun T3 => F_X10_strikesBy_11 N fu m rt (Int32.ofNat i + 1) T3) = some (axM Z f') ∧ (∀ j, j < 60 → f' (m + 464) j = q_fs ψ l o rt j) ∧ ∀ x, ¬ scS m x → f' x = f x := by
        intro g hg X2 Y2
        have g2v : g (m + 441) 2 = μ 2 := by rw [rdM_k g (m + 441) (by omega), hg]; rfl
        rw [m_gr h0 s4.1, m_ld29_2 s4.2.1, g2v, m_st29_2 s4.2.1, qi_s]
        have R3 : rdM (ax2 g (m + 441) 2 (μ 2 + 1)) (m + 441) = q_mstep ψ rt (q_fs ψ l o rt i) i μ := by
          rw [rdM_w _ _ _ (by omega), hg]
          funext k
          rcases k with _ | _ | _ | _ | k
          · rfl
          · rfl
          · rfl
          · show w = _
            rw [hw]
            rfl
          · rfl
        have X3 : ∀ x, ¬ scS m x → ax2 g (m + 441) 2 (μ 2 + 1) x = f x := fun x hx => by rw [ax2_n _ _ _ _ (by unfold scS at hx; omega), X2 x hx]
        obtain ⟨f5, e5, r5, fr5⟩ := ih (i + 1) fu (ax2 g (m + 441) 2 (μ 2 + 1)) _ (by omega) (by omega) (h.ss X3) R3 (fun k hk => by rw [q_fr_s]; exact q_mstep_eq (by omega) hz he k hk) (fun j hj => by rw [ax2_n _ _ _ _ (by omega)]; exact Y2 j hj)
        exact ⟨f5, e5, r5, fun x hx => by rw [fr5 x hx, X3 x hx]⟩
      by_cases c : i % 12 = 11
      · rw [if_pos (show Int32.ofNat (i % 12) = 11 by rw [c]; rfl), m_gr h0 s4.1, qm_earns s4.2.1, axBV_s]
        have e0 : g2 (m + 441) 0 = μ 0 := by rw [rdM_k g2 (m + 441) (by omega), R1]; rfl
        refine fin _ ?_ (fun x hx => by rw [ax2_n _ _ _ _ (by unfold scS at hx; omega), X1 x hx]) (fun j hj => by rw [ax2_n _ _ _ _ (by omega), Y1 j hj])
        rw [rdM_w _ _ _ (by omega), R1, e0]
        funext k
        unfold q_set
        by_cases ck : k = 0
        · rw [if_pos ck, if_pos ck, if_pos c]
        · rw [if_neg ck, if_neg ck]
      · rw [if_neg (show ¬ Int32.ofNat (i % 12) = 11 from qi_ne (j := 11) c (by omega) (by omega))]
        refine fin _ ?_ X1 Y1
        rw [R1]
        funext k
        by_cases ck : k = 0
        · rw [if_pos ck, if_neg c, ck]
          rfl
        · rw [if_neg ck]
    have e3 : ax2 f1 (m + 464) i (q_fs ψ l o rt i) (m + 441) 3 = μ 3 := by rw [ax2_n _ _ _ _ (by omega), rdM_k f1 (m + 441) (by omega), g1]
    by_cases c : q_fs ψ l o rt i = 0
    · rw [if_pos c, m_ld29_3 s4.2.1, e3]
      exact go _ (by rw [if_pos c])
    · rw [if_neg c]
      exact go _ (by rw [if_neg c])
theorem qm_strikes (hN : 200 < N) (h : HM Z m f ψ l r) (o rt : Int32) : ∃ f', F_X10_strikesBy N m o rt (axM Z f) = some (axM Z f') ∧ (∀ j, j < 60 → f' (m + 464) j = q_fs ψ l o rt j) ∧ ∀ x, ¬ scS m x → f' x = f x := by
  have s4 := h.s441
  obtain ⟨f1, e1, g1, fr1⟩ := qm_begins (N := N) (f := f) hN h.1 s4.2.1 (by omega) o (rdG_0 h.2.1 (show 2 < 7 by omega))
  have F1 : ∀ x, ¬ scS m x → f1 x = f x := fun x hx => fr1 x (by unfold scS at hx; omega)
  unfold F_X10_strikesBy
  rw [m_gr h.1.1 s4.1, m_is h.1.1, e1, axBV_s]
  obtain ⟨f2, e2, r2, fr2⟩ := qm_strikes_l (N := N) hN o rt 60 0 N f1 (q_beg ψ o) (by omega) (by omega) (h.ss F1) g1 (fun _ _ => rfl) (fun j hj => absurd hj (by omega))
  exact ⟨f2, e2, r2, fun x hx => by rw [fr2 x hx, F1 x hx]⟩
theorem qm_struck (hN : 200 < N) (h : HM Z m f ψ l r) {β S : QR} {nl : Nat} (hB : mlB f m β nl) (hs : ∀ j, j < 60 → f (m + 464) j = S j) : F_X10_isStruck N m (axM Z f) = some (if q_right β S = true then 1 else 0, axM Z f) := by
  have hm := h.1
  have h0 := hm.1
  have p39 : axP Z m 39 = some (m + 464) := hm.2.1 39 464 rfl
  have s464 : axL Z (m + 464) = some (1, 60) := hm.2.2.1 464 _ rfl
  have p21 : axP Z m 21 = some (m + 339) := hm.2.1 21 339 rfl
  have s339 : axL Z (m + 339) = some (0 + 3, 8) := hm.2.2.1 339 _ rfl
  obtain ⟨h1, h2, I, h3, h4⟩ := hB
  have loop : ∀ (n k fu : Nat), k + n = nl → n < fu → F_X10_isStruck_2 N fu m (Int32.ofNat k) (axM Z f) = some (if q_allb (fun k => decide (S (I k) = β (I k))) n k = true then 1 else 0, axM Z f) := by
    intro n
    induction n with
    | zero =>
      intro k fu hk hfu
      obtain ⟨fu, rfl⟩ : ∃ q, fu = q + 1 := ⟨fu - 1, by omega⟩
      show F_X10_isStruck_2b N (F_X10_isStruck_2 N fu) m (Int32.ofNat k) (axM Z f) = _
      unfold F_X10_isStruck_2b
      rw [m_gi h0, h1, if_pos (qi_ge (by omega) (by omega)), m_rz1]
      rfl
    | succ n ih =>
      intro k fu hk hfu
      obtain ⟨fu, rfl⟩ : ∃ q, fu = q + 1 := ⟨fu - 1, by omega⟩
      show F_X10_isStruck_2b N (F_X10_isStruck_2 N fu) m (Int32.ofNat k) (axM Z f) = _
      unfold F_X10_isStruck_2b
      obtain ⟨i1, i2, i3, i4⟩ := h3 k (by omega)
      obtain ⟨q1, q2⟩ := hm.2.2.2 339 8 2 rfl k (by omega)
      rw [m_gi h0, h1, if_neg (qi_nge (by omega) (by omega)), m_gr h0 p39, m_gr h0 p21, m_ldrn s339 (by omega) (show k < 8 by omega) (by omega) q1, m_ldk_0 q2 (by omega), show f (m + (339 + 1) + k) 0 = _ from i2, m_ldn s464 i1 (by omega), hs _ i1, m_gr h0 p21, m_ldrn s339 (by omega) (show k < 8 by omega) (by omega) q1, m_ldk_1 q2 (by omega), show f (m + (339 + 1) + k) 1 = _ from i3, qi_s, ih (k + 1) fu (by omega) (by omega)]
      show _ = some (if (if decide (S (I k) = β (I k)) = true then q_allb (fun k => decide (S (I k) = β (I k))) n (k + 1) else false) = true then 1 else 0, axM Z f)
      by_cases c : S (I k) = β (I k)
      · rw [if_pos c, if_pos (decide_eq_true c)]
      · rw [if_neg c, if_neg (show ¬ decide (S (I k) = β (I k)) = true from fun z => c (of_decide_eq_true z)), m_rz0]
        rfl
  unfold F_X10_isStruck
  rw [show F_X10_isStruck_2 N N m 0 (axM Z f) = _ from loop nl 0 N (by omega) (by omega)]
  have e : (q_allb (fun k => decide (S (I k) = β (I k))) nl 0 = true) = (q_right β S = true) := by
    refine propext ?_
    unfold q_right
    rw [q_allb_iff, q_allb_iff]
    constructor
    · intro z i _ hi
      refine decide_eq_true ?_
      by_cases c : β i = -1
      · exact Or.inl c
      · obtain ⟨k, hk, ek⟩ := h4 i (by omega) c
        have := of_decide_eq_true (z k (by omega) (by omega))
        rw [ek] at this
        exact Or.inr this.symm
    · intro z k _ hk
      obtain ⟨i1, -, -, i4⟩ := h3 k (by omega)
      have := of_decide_eq_true (z (I k) (by omega) (by omega))
      exact decide_eq_true ((this.resolve_left i4).symm)
  by_cases c : q_right β S = true
  · rw [if_pos c, if_pos (by rw [e]; exact c)]
  · rw [if_neg c, if_neg (by rw [e]; exact c)]
/-- the latest owed that fitted -/
def q_lat (o : Nat) (L : Int32) : Prop := L = -1 ∨ ∃ p, p < o ∧ L = Int32.ofNat p
theorem qm_fits57 (hN : 200 < N) {β : QR} {nl o : Nat} (ho : o < 200) {ow : Int32} (K : Nat → Int32 → Int32 → Int32 → Int32 → Int32 → Int32 → Int32 → AxS → Option (Int32 × AxS)) (w : Int32) : ∀ (n rt fu : Nat) (f : Nat → Nat → Int32) (st : QX × QF × Bool) (ows L : Int32), rt + n = 21 → n < fu → HM Z m f ψ l r → mlB f m β nl → (if st.2.2 = true then ows = ow + 1 ∧ L = Int32.ofNat o else ows = ow ∧ q_lat o L) → ∃ f' L', F_X10_fits_57 N K fu m w st.1.1 st.1.2.1 st.1.2.2 ows L (Int32.ofNat o) (Int32.ofNat rt) (axM Z f) = K m w (q_fi (q_fR ψ l β) (q_fn ψ l) o n rt st).1.1 (q_fi (q_fR ψ l β) (q_fn ψ l) o n rt st).1.2.1 (q_fi (q_fR ψ l β) (q_fn ψ l) o n rt st).1.2.2 (if (q_fi (q_fR ψ l β) (q_fn ψ l) o n rt st).2.2 = true then ow + 1 else ow) L' (Int32.ofNat o + 1) (axM Z f') ∧ q_lat (o + 1) L' ∧ ∀ x, ¬ scS m x → f' x = f x := by
  intro n
  induction n with
  | zero =>
    intro rt fu f st ows L hr hfu h hB hL
    obtain ⟨fu, rfl⟩ : ∃ q, fu = q + 1 := ⟨fu - 1, by omega⟩
    show ∃ f' L', F_X10_fits_57b N K (F_X10_fits_57 N K fu) m w st.1.1 st.1.2.1 st.1.2.2 ows L (Int32.ofNat o) (Int32.ofNat rt) (axM Z f) = K m w st.1.1 st.1.2.1 st.1.2.2 (if st.2.2 = true then ow + 1 else ow) L' (Int32.ofNat o + 1) (axM Z f') ∧ _
    unfold F_X10_fits_57b
    rw [if_pos (show (21 : Int32) ≤ Int32.ofNat rt from qi_ge (i := 21) (by omega) (by omega))]
    refine ⟨f, L, ?_, ?_, fun _ _ => rfl⟩
    · by_cases c : st.2.2 = true
      · rw [if_pos c] at hL
        rw [if_pos c, hL.1]
      · rw [if_neg c] at hL
        rw [if_neg c, hL.1]
    · by_cases c : st.2.2 = true
      · rw [if_pos c] at hL
        exact Or.inr ⟨o, by omega, hL.2⟩
      · rw [if_neg c] at hL
        rcases hL.2 with e | ⟨p, hp, e⟩
        · exact Or.inl e
        · exact Or.inr ⟨p, by omega, e⟩
  | succ n ih =>
    intro rt fu f st ows L hr hfu h hB hL
    obtain ⟨fu, rfl⟩ : ∃ q, fu = q + 1 := ⟨fu - 1, by omega⟩
    show ∃ f' L', F_X10_fits_57b N K (F_X10_fits_57 N K fu) m w st.1.1 st.1.2.1 st.1.2.2 ows L (Int32.ofNat o) (Int32.ofNat rt) (axM Z f) = _ ∧ _
    have h0 := h.1.1
    obtain ⟨f1, e1, s1, fr1⟩ := qm_strikes (N := N) hN h (Int32.ofNat o) (Int32.ofNat rt)
    unfold F_X10_fits_57b F_X10_fits_92 F_X10_fits_104 F_X10_fits_120 F_X10_fits_130
    rw [if_neg (show ¬ (21 : Int32) ≤ Int32.ofNat rt from qi_nge (i := 21) (by omega) (by omega)), m_is h0, e1, axBV_s, m_is h0, qm_struck hN (h.ss fr1) (hB.ss fr1) s1, axB_s]
    show ∃ f' L', _ = K m w (q_fi (q_fR ψ l β) (q_fn ψ l) o n (rt + 1) (if q_right β (q_fs ψ l (Int32.ofNat o) (Int32.ofNat rt)) = true then (q_fX1 st.1 (Int32.ofNat o) (Int32.ofNat rt), q_fA1 st.2.1 (q_fn ψ l o rt), true) else st)).1.1 (q_fi (q_fR ψ l β) (q_fn ψ l) o n (rt + 1) (if q_right β (q_fs ψ l (Int32.ofNat o) (Int32.ofNat rt)) = true then (q_fX1 st.1 (Int32.ofNat o) (Int32.ofNat rt), q_fA1 st.2.1 (q_fn ψ l o rt), true) else st)).1.2.1 (q_fi (q_fR ψ l β) (q_fn ψ l) o n (rt + 1) (if q_right β (q_fs ψ l (Int32.ofNat o) (Int32.ofNat rt)) = true then (q_fX1 st.1 (Int32.ofNat o) (Int32.ofNat rt), q_fA1 st.2.1 (q_fn ψ l o rt), true) else st)).1.2.2 (if (q_fi (q_fR ψ l β) (q_fn ψ l) o n (rt + 1) (if q_right β (q_fs ψ l (Int32.ofNat o) (Int32.ofNat rt)) = true then (q_fX1 st.1 (Int32.ofNat o) (Int32.ofNat rt), q_fA1 st.2.1 (q_fn ψ l o rt), true) else st)).2.2 = true then ow + 1 else ow) L' (Int32.ofNat o + 1) (axM Z f') ∧ _
    by_cases c : q_right β (q_fs ψ l (Int32.ofNat o) (Int32.ofNat rt)) = true
    · simp only [if_pos c]
      rw [if_neg (show ¬ (1 : Int32) = 0 by decide)]
      have go : ∀ ows', ows' = ow + 1 → ∃ f' L', F_X10_fits_57 N K fu m w (st.1.1 + 1) (if st.1.1 = 0 then Int32.ofNat o else st.1.2.1) (if st.1.1 = 0 then Int32.ofNat rt else st.1.2.2) ows' (Int32.ofNat o) (Int32.ofNat o) (Int32.ofNat rt + 1) (axM Z f1) = K m w (q_fi (q_fR ψ l β) (q_fn ψ l) o n (rt + 1) (q_fX1 st.1 (Int32.ofNat o) (Int32.ofNat rt), q_fA1 st.2.1 (q_fn ψ l o rt), true)).1.1 (q_fi (q_fR ψ l β) (q_fn ψ l) o n (rt + 1) (q_fX1 st.1 (Int32.ofNat o) (Int32.ofNat rt), q_fA1 st.2.1 (q_fn ψ l o rt), true)).1.2.1 (q_fi (q_fR ψ l β) (q_fn ψ l) o n (rt + 1) (q_fX1 st.1 (Int32.ofNat o) (Int32.ofNat rt), q_fA1 st.2.1 (q_fn ψ l o rt), true)).1.2.2 (if (q_fi (q_fR ψ l β) (q_fn ψ l) o n (rt + 1) (q_fX1 st.1 (Int32.ofNat o) (Int32.ofNat rt), q_fA1 st.2.1 (q_fn ψ l o rt), true)).2.2 = true then ow + 1 else ow) L' (Int32.ofNat o + 1) (axM Z f') ∧ q_lat (o + 1) L' ∧ ∀ x, ¬ scS m x → f' x = f x := by
        intro ows' ho'
        obtain ⟨f2, L2, e2, l2, fr2⟩ := ih (rt + 1) fu f1 (q_fX1 st.1 (Int32.ofNat o) (Int32.ofNat rt), q_fA1 st.2.1 (q_fn ψ l o rt), true) ows' (Int32.ofNat o) (by omega) (by omega) (h.ss fr1) (hB.ss fr1) (by rw [if_pos rfl]; exact ⟨ho', rfl⟩)
        rw [qi_s]
        exact ⟨f2, L2, e2, l2, fun x hx => by rw [fr2 x hx, fr1 x hx]⟩
      have go2 : ∃ f' L', (if Int32.ofNat o = L then F_X10_fits_57 N K fu m w (st.1.1 + 1) (if st.1.1 = 0 then Int32.ofNat o else st.1.2.1) (if st.1.1 = 0 then Int32.ofNat rt else st.1.2.2) (ows + 0) (Int32.ofNat o) (Int32.ofNat o) (Int32.ofNat rt + 1) (axM Z f1) else F_X10_fits_57 N K fu m w (st.1.1 + 1) (if st.1.1 = 0 then Int32.ofNat o else st.1.2.1) (if st.1.1 = 0 then Int32.ofNat rt else st.1.2.2) (ows + 1) (Int32.ofNat o) (Int32.ofNat o) (Int32.ofNat rt + 1) (axM Z f1)) = K m w (q_fi (q_fR ψ l β) (q_fn ψ l) o n (rt + 1) (q_fX1 st.1 (Int32.ofNat o) (Int32.ofNat rt), q_fA1 st.2.1 (q_fn ψ l o rt), true)).1.1 (q_fi (q_fR ψ l β) (q_fn ψ l) o n (rt + 1) (q_fX1 st.1 (Int32.ofNat o) (Int32.ofNat rt), q_fA1 st.2.1 (q_fn ψ l o rt), true)).1.2.1 (q_fi (q_fR ψ l β) (q_fn ψ l) o n (rt + 1) (q_fX1 st.1 (Int32.ofNat o) (Int32.ofNat rt), q_fA1 st.2.1 (q_fn ψ l o rt), true)).1.2.2 (if (q_fi (q_fR ψ l β) (q_fn ψ l) o n (rt + 1) (q_fX1 st.1 (Int32.ofNat o) (Int32.ofNat rt), q_fA1 st.2.1 (q_fn ψ l o rt), true)).2.2 = true then ow + 1 else ow) L' (Int32.ofNat o + 1) (axM Z f') ∧ q_lat (o + 1) L' ∧ ∀ x, ¬ scS m x → f' x = f x := by
        by_cases cf : st.2.2 = true
        · rw [if_pos cf] at hL
          rw [if_pos hL.2.symm, Int32.add_zero]
          exact go _ hL.1
        · rw [if_neg cf] at hL
          have hne : ¬ Int32.ofNat o = L := fun e => by
            rcases hL.2 with e2 | ⟨p, hp, e2⟩
            · rw [e2] at e
              exact q_nm1 (by omega) e
            · rw [e2, qi_eq (by omega) (by omega)] at e
              omega
          rw [if_neg hne, hL.1]
          exact go _ rfl
      by_cases c0 : st.1.1 = 0
      · simp only [if_pos c0] at go2 ⊢
        exact go2
      · simp only [if_neg c0] at go2 ⊢
        exact go2
    · simp only [if_neg c]
      rw [if_pos trivial, qi_s]
      obtain ⟨f2, L2, e2, l2, fr2⟩ := ih (rt + 1) fu f1 st ows L (by omega) (by omega) (h.ss fr1) (hB.ss fr1) hL
      exact ⟨f2, L2, e2, l2, fun x hx => by rw [fr2 x hx, fr1 x hx]⟩
theorem qm_fits46 (hN : 200 < N) {β : QR} {nl : Nat} (w : Int32) : ∀ (n o fu : Nat) (f : Nat → Nat → Int32) (st : QX × QF × Int32) (L : Int32), o + n = 200 → n < fu → HM Z m f ψ l r → mlB f m β nl → q_lat o L → ∃ f', F_X10_fits_46 N fu m w st.1.1 st.1.2.1 st.1.2.2 st.2.2 L (Int32.ofNat o) (axM Z f) = some (q_fitv (q_fo (q_fR ψ l β) (q_fn ψ l) n o st) w, axM Z f') ∧ ∀ x, ¬ scS m x → f' x = f x := by
  intro n
  induction n with
  | zero =>
    intro o fu f st L ho hfu h hB hL
    obtain ⟨fu, rfl⟩ : ∃ q, fu = q + 1 := ⟨fu - 1, by omega⟩
    show ∃ f', F_X10_fits_46b N (F_X10_fits_46 N fu) m w st.1.1 st.1.2.1 st.1.2.2 st.2.2 L (Int32.ofNat o) (axM Z f) = some (q_fitv st w, axM Z f') ∧ _
    unfold F_X10_fits_46b q_fitv
    rw [if_pos (show (200 : Int32) ≤ Int32.ofNat o from qi_ge (i := 200) (by omega) (by omega))]
    refine ⟨f, ?_, fun _ _ => rfl⟩
    by_cases w0 : w = 0
    · rw [if_pos w0, if_pos w0]
    rw [if_neg w0, if_neg w0]
    by_cases w1 : w = 1
    · rw [if_pos w1, if_pos w1]
    rw [if_neg w1, if_neg w1]
    by_cases w2 : w = 2
    · rw [if_pos w2, if_pos w2]
    rw [if_neg w2, if_neg w2]
  | succ n ih =>
    intro o fu f st L ho hfu h hB hL
    obtain ⟨fu, rfl⟩ : ∃ q, fu = q + 1 := ⟨fu - 1, by omega⟩
    show ∃ f', F_X10_fits_46b N (F_X10_fits_46 N fu) m w st.1.1 st.1.2.1 st.1.2.2 st.2.2 L (Int32.ofNat o) (axM Z f) = _ ∧ _
    obtain ⟨f1, L1, e1, l1, fr1⟩ := qm_fits57 (N := N) hN (show o < 200 by omega) (ow := st.2.2) (F_X10_fits_46 N fu) w 21 0 N f (st.1, st.2.1, false) st.2.2 L (by omega) (by omega) h hB (by rw [if_neg (show ¬ (st.1, st.2.1, false).2.2 = true from fun z => by cases z)]; exact ⟨rfl, hL⟩)
    unfold F_X10_fits_46b
    rw [if_neg (show ¬ (200 : Int32) ≤ Int32.ofNat o from qi_nge (i := 200) (by omega) (by omega)), show F_X10_fits_57 N (F_X10_fits_46 N fu) N m w st.1.1 st.1.2.1 st.1.2.2 st.2.2 L (Int32.ofNat o) 0 (axM Z f) = _ from e1, qi_s]
    obtain ⟨f2, e2, fr2⟩ := ih (o + 1) fu f1 ((q_fi (q_fR ψ l β) (q_fn ψ l) o 21 0 (st.1, st.2.1, false)).1, (q_fi (q_fR ψ l β) (q_fn ψ l) o 21 0 (st.1, st.2.1, false)).2.1, if (q_fi (q_fR ψ l β) (q_fn ψ l) o 21 0 (st.1, st.2.1, false)).2.2 = true then st.2.2 + 1 else st.2.2) L1 (by omega) (by omega) (h.ss fr1) (hB.ss fr1) l1
    exact ⟨f2, e2, fun x hx => by rw [fr2 x hx, fr1 x hx]⟩
theorem qm_fits (hN : 2000 < N) (h : HM Z m f ψ l r) {β : QR} {nl : Nat} (hB : mlB f m β nl) (w : Int32) : ((0 ≤ w ∧ w ≤ 3) → MQz Z m f (F_X10_fits N m w (axM Z f)) (q_fitv (q_fall ψ l β) w)) ∧ (¬ (0 ≤ w ∧ w ≤ 3) → MTz Z m f (F_X10_fits N m w (axM Z f)) 1 1) := by
  have h' := h.t0
  have h0 := h.1.1
  unfold F_X10_fits F_X10_fits_20
  rw [m_pi h0, m_in, axB_s]
  refine ⟨fun c => ?_, fun c => ?_⟩
  · obtain ⟨f1, e1, fr1⟩ := qm_fits46 (N := N) (by omega) w 200 0 N (ax2 f m 0 0) ((0, -1, -1), fun _ _ => 0, 0) (-1) (by omega) (by omega) h' hB.t0 (Or.inl rfl)
    rw [if_pos c, if_neg (by decide), m_is h0, qm_badF N h0]
    exact MQz.mkk f1 e1 (KM.sc (fun x hx => fr1 x (scS_M hx)))
  · rw [if_neg c, if_pos rfl, m_is h0]
    exact qm_badT1 N h.1 _ _
end
