/-! images: the class -/
section
variable {Z : AxS} {b m N : Nat} {f g : Nat → Nat → Int32} {ψ : QF} {l : QL} {r β : QR} {nl nb : Nat} {t : QR} {pl rs c0 c1 : Int32} {nw : Nat} {wk : Nat → QR} {ni : Nat} {im : QI}
theorem qc_wtake_l {a o : Nat} (ha : LWo Z a) (ho : LWo Z o) (hd : a + 49 < o ∨ o + 49 < a) (hN : 2000 < N) {k : Nat} (hk : k ≤ 16) : ∀ (n j fu : Nat) (f : Nat → Nat → Int32), j + n = k → n < fu → f a 1 = Int32.ofNat k → ∃ f', F_X8_take_10 N fu a o (Int32.ofNat j) (axM Z f) = some (axM Z f') ∧ (∀ w, j ≤ w → w < k → rdSt f' (a + 2 + 3 * w) = rdSt f (o + 2 + 3 * w)) ∧ (∀ x, ¬ (a + 2 + 3 * j ≤ x ∧ x ≤ a + 49) → f' x = f x) := by
  obtain ⟨h0, ⟨w0, ws⟩, hws⟩ := ha
  obtain ⟨o0, ⟨p0, ps⟩, hps⟩ := ho
  intro n
  induction n with
  | zero =>
    intro j fu f hj hfu h
    obtain ⟨fu, rfl⟩ : ∃ q, fu = q + 1 := ⟨fu - 1, by omega⟩
    show ∃ f', F_X8_take_10b N (F_X8_take_10 N fu) a o (Int32.ofNat j) (axM Z f) = _ ∧ _
    unfold F_X8_take_10b
    rw [m_gi h0, h, if_pos (qi_ge (by omega) (by omega))]
    exact ⟨f, rfl, fun w h1 h2 => by omega, fun _ _ => rfl⟩
  | succ n ih =>
    intro j fu f hj hfu h
    obtain ⟨fu, rfl⟩ : ∃ q, fu = q + 1 := ⟨fu - 1, by omega⟩
    show ∃ f', F_X8_take_10b N (F_X8_take_10 N fu) a o (Int32.ofNat j) (axM Z f) = _ ∧ _
    unfold F_X8_take_10b
    obtain ⟨v1, v2⟩ := hws j (by omega)
    obtain ⟨u1, u2⟩ := hps j (by omega)
    obtain ⟨f1, x1, y1, r1⟩ := qc_take (N := N) (f := f) (by omega) v2 u2 (by omega)
    rw [m_gi h0, h, if_neg (qi_nge (by omega) (by omega)), m_gr h0 w0, m_len (t := 4) ws (by omega), if_neg (qi_nge (by omega) (by omega)), m_gr o0 p0, m_len (t := 4) ps (by omega), if_neg (qi_nge (by omega) (by omega)), m_gr h0 w0, m_ldrn (t := 2) ws (by omega) (show j < 16 by omega) (by omega) v1, m_gr o0 p0, m_ldrn (t := 2) ps (by omega) (show j < 16 by omega) (by omega) u1, m_is v2.1, x1, axBV_s, qi_s]
    obtain ⟨f', e, q1, q2⟩ := ih (j + 1) fu f1 (by omega) (by omega) (by rw [r1 a (by omega) (by omega) (by omega), h])
    refine ⟨f', e, fun w h1 h2 => ?_, fun x hx => by rw [q2 x (by omega), r1 x (by omega) (by omega) (by omega)]⟩
    by_cases c : w = j
    · subst c
      rw [rdSt_e (q2 _ (by omega)) (q2 _ (by omega)) (q2 _ (by omega)), y1]
    · rw [q1 w (by omega) h2]
      exact rdSt_e (r1 _ (by omega) (by omega) (by omega)) (r1 _ (by omega) (by omega) (by omega)) (r1 _ (by omega) (by omega) (by omega))
theorem qc_wtake {a o : Nat} (ha : LWo Z a) (ho : LWo Z o) (hd : a + 49 < o ∨ o + 49 < a) (hN : 2000 < N) {k : Nat} (hk : k ≤ 16) (h : f o 1 = Int32.ofNat k) : ∃ f', F_X8_take N a o (axM Z f) = some (axM Z f') ∧ f' a 1 = Int32.ofNat k ∧ (∀ w, w < k → rdSt f' (a + 2 + 3 * w) = rdSt f (o + 2 + 3 * w)) ∧ ∀ x, x ≠ a → ¬ (a + 2 ≤ x ∧ x ≤ a + 49) → f' x = f x := by
  unfold F_X8_take
  rw [m_gi ho.1, h, m_pi ha.1]
  obtain ⟨f', e, q1, q2⟩ := qc_wtake_l (N := N) ha ho hd hN hk k 0 N (ax2 f a 1 (Int32.ofNat k)) (by omega) (by omega) (ax2_k _ _ _ _)
  refine ⟨f', e, by rw [q2 a (by omega), ax2_k], fun w hw => ?_, fun x p q => by rw [q2 x (by omega), ax2_n _ _ _ _ p]⟩
  rw [q1 w (by omega) hw]
  exact rdSt_e (ax2_n _ _ _ _ (by omega)) (ax2_n _ _ _ _ (by omega)) (ax2_n _ _ _ _ (by omega))
def q_im (ni nw : Nat) (r : QR) (wk : Nat → QR) (im : QI) : QI := fun i => if i = ni then (nw, r, wk) else im i
theorem qc_image (hN : 2000 < N) (h : CA Z b f ψ l r β nl nb t pl rs c0 c1 nw wk ni im) (hV : VA ψ nb t nw wk ni im) : (ni = 3 → F_X9_image N b (axM Z f) = some (-1, axM Z f)) ∧ (ni < 3 → ∃ f', F_X9_image N b (axM Z f) = some (Int32.ofNat (ni + 1), axM Z f') ∧ CA Z b f' ψ l r β nl nb t pl rs c0 c1 nw wk (ni + 1) (q_im ni nw r wk im) ∧ CFa b f f') := by
  have hRS := h.rst
  obtain ⟨⟨fa, sf, la, sl, bo, sb, hH, hB⟩, hK, hT, k1, k2, k3, k4, k5, k6, k7, k8, k9, k10⟩ := h
  obtain ⟨-, -, hnw, hwk, hni, him⟩ := hV
  obtain ⟨hC, hF, hw, hl, hlw, hR, hok⟩ := hH
  have a0 := hC.1.1
  obtain ⟨p8, hst⟩ := hC.2.2.2.2.2.2.2.1
  obtain ⟨p10, hwo⟩ := hC.2.2.2.2.2.2.2.2.2.1
  obtain ⟨p11, s11, him9⟩ := hC.2.2.2.2.2.2.2.2.2.2.1
  have q1 := hC.2.2.1
  have q2 := hC.2.2.2.1
  have q3 := hC.2.2.2.2.1
  have hla : b + 14 < la ∧ la + 3 < b + 23 := by clear q1 q3; omega
  have hfa : b + 2 < fa ∧ fa + 5 < b + 15 := by clear q2 q3; omega
  have hbo : b + 22 < bo ∧ bo + 1 < b + 27 := by clear q1 q2; omega
  clear q1 q2 q3
  unfold F_X9_image
  rw [m_gi a0, k9, if_neg (qi_nn (by omega)), m_gi a0, k9, m_gr a0 p11, m_len (t := 3) s11 (by omega)]
  refine ⟨fun e3 => ?_, fun l3 => ?_⟩
  · rw [if_neg (qi_ngt (by omega) (by omega))]
  obtain ⟨v1, i0, ⟨i1, ist⟩, i4, iwo⟩ := him9 ni l3
  have E1 : b + 154 + 54 * ni + 1 = b + 155 + 54 * ni := by omega
  have E4 : b + 154 + 54 * ni + 4 = b + 158 + 54 * ni := by omega
  rw [E1] at i1 ist
  rw [E4] at i4 iwo
  obtain ⟨f1, x1, y1, r1⟩ := qc_take (N := N) (f := f) (by omega) ist hst (by omega)
  obtain ⟨f2, x2, z2, y2, r2⟩ := qc_wtake (f := f1) iwo hwo (by omega) hN hnw (by rw [r1 _ (by omega) (by omega) (by omega), k7])
  have o2 : ∀ x, ¬ (b + 155 + 54 * ni ≤ x ∧ x ≤ b + 207 + 54 * ni) → f2 x = f x := fun x hx => by rw [r2 x (by omega) (by omega), r1 x (by omega) (by omega) (by omega)]
  have o3 : ∀ x, x ≠ b → ¬ (b + 155 + 54 * ni ≤ x ∧ x ≤ b + 207 + 54 * ni) → ax2 f2 b 12 (Int32.ofNat (ni + 1)) x = f x := fun x p hx => by rw [ax2_n _ _ _ _ p, o2 x hx]
  have ob : ∀ k, k ≠ 12 → ax2 f2 b 12 (Int32.ofNat (ni + 1)) b k = f b k := fun k hk => by rw [ax2_j _ _ _ _ _ hk, o2 b (by omega)]
  have ei : F_X3_take N (b + 154 + 54 * ni) (b + 31) (b + 37) (axM Z f) = some (axM Z f2) := by
    unfold F_X3_take
    rw [m_gr i0 i1, m_is ist.1, x1, axBV_s, m_gr i0 i4, m_is iwo.1, x2, axBV_s]
  refine ⟨ax2 f2 b 12 (Int32.ofNat (ni + 1)), ?_, CA.mk ⟨fa, sf, la, sl, bo, sb, ⟨hC, ?_, hw, hl.e (o3 _ (by omega) (by omega)) (o3 _ (by omega) (by omega)), hlw, ?_, hok⟩, ?_⟩ (hK.e fun x p q => o3 x (by omega) (by omega)) hT (by rw [o3 _ (by omega) (by omega), k1]) (by rw [o3 _ (by omega) (by omega), k3]) ⟨fun j hj => by rw [o3 _ (by omega) (by omega), k2 j hj], by rw [ob _ (by omega), k4], by rw [ob _ (by omega), k5], by rw [ob _ (by omega), k6], by rw [o3 _ (by omega) (by omega), k7], fun w hw => ?_, ax2_k _ _ _ _, fun i hi => ?_⟩, fun x hx => o3 x (by omega) (by omega)⟩
  · rw [if_pos (qi_gt l3 (by omega)), m_gr a0 p11, m_gi a0, k9, m_ldrn (t := 1) s11 (by omega) l3 (by omega) v1, m_gr a0 p8, m_gr a0 p10, m_is i0, ei, axBV_s, m_gi a0, o2 b (by omega), k9, m_pi a0, qi_s, m_gi a0, ax2_k]
  · rw [← hF]
    exact rdF_e fun x p q => o3 x (by omega) (by omega)
  · rw [← hR]
    exact rdSt_e (o3 _ (by omega) (by omega)) (o3 _ (by omega) (by omega)) (o3 _ (by omega) (by omega))
  · unfold clB at hB ⊢
    rw [o3 bo (by omega) (by omega), o3 (bo + 1) (by omega) (by omega)]
    exact hB
  · rw [← k8 w hw]
    exact rdSt_e (o3 _ (by omega) (by omega)) (o3 _ (by omega) (by omega)) (o3 _ (by omega) (by omega))
  · unfold q_im
    by_cases c : i = ni
    · subst c
      rw [if_pos rfl]
      refine ⟨by rw [ax2_n _ _ _ _ (by omega)]; exact z2, ?_, fun w hw => ?_⟩
      · show _ = r
        rw [rdSt_e (f := ax2 f2 b 12 (Int32.ofNat (i + 1))) (g := f1) (by rw [ax2_n _ _ _ _ (by omega), r2 _ (by omega) (by omega)]) (by rw [ax2_n _ _ _ _ (by omega), r2 _ (by omega) (by omega)]) (by rw [ax2_n _ _ _ _ (by omega), r2 _ (by omega) (by omega)]), y1, hR]
      · show _ = wk w
        have hw : w < nw := hw
        rw [rdSt_e (f := ax2 f2 b 12 (Int32.ofNat (i + 1))) (g := f2) (ax2_n _ _ _ _ (by omega)) (ax2_n _ _ _ _ (by omega)) (ax2_n _ _ _ _ (by omega)), ← k8 w hw, show b + 160 + 54 * i + 3 * w = b + 158 + 54 * i + 2 + 3 * w by omega, y2 w hw, show b + 39 + 3 * w = b + 37 + 2 + 3 * w by omega]
        exact rdSt_e (r1 _ (by omega) (by omega) (by omega)) (r1 _ (by omega) (by omega) (by omega)) (r1 _ (by omega) (by omega) (by omega))
    · rw [if_neg c]
      obtain ⟨u1, u2, u3⟩ := k10 i (by omega)
      refine ⟨by rw [o3 _ (by omega) (by omega), u1], ?_, fun w hw => ?_⟩
      · rw [← u2]
        exact rdSt_e (o3 _ (by omega) (by omega)) (o3 _ (by omega) (by omega)) (o3 _ (by omega) (by omega))
      · have := (him i (by omega)).1
        rw [← u3 w hw]
        exact rdSt_e (o3 _ (by omega) (by omega)) (o3 _ (by omega) (by omega)) (o3 _ (by omega) (by omega))
theorem qc_restore (hN : 2000 < N) (h : CA Z b f ψ l r β nl nb t pl rs c0 c1 nw wk ni im) (hV : VA ψ nb t nw wk ni im) : (ni = 0 → F_X9_restore N b (axM Z f) = some (-1, axM Z f)) ∧ (0 < ni → ∃ f', F_X9_restore N b (axM Z f) = some (Int32.ofNat (ni - 1), axM Z f') ∧ CA Z b f' ψ l (im (ni - 1)).2.1 β nl nb t pl 0 c0 c1 (im (ni - 1)).1 (im (ni - 1)).2.2 (ni - 1) im ∧ CFa b f f') := by
  obtain ⟨⟨fa, sf, la, sl, bo, sb, hH, hB⟩, hK, hT, k1, k2, k3, k4, k5, k6, k7, k8, k9, k10⟩ := h
  obtain ⟨-, -, hnw, hwk, hni, him⟩ := hV
  obtain ⟨hC, hF, hw, hl, hlw, hR, hok⟩ := hH
  have a0 := hC.1.1
  obtain ⟨p8, hst⟩ := hC.2.2.2.2.2.2.2.1
  obtain ⟨p10, hwo⟩ := hC.2.2.2.2.2.2.2.2.2.1
  obtain ⟨p11, s11, him9⟩ := hC.2.2.2.2.2.2.2.2.2.2.1
  have q1 := hC.2.2.1
  have q2 := hC.2.2.2.1
  have q3 := hC.2.2.2.2.1
  have hla : b + 14 < la ∧ la + 3 < b + 23 := by clear q1 q3; omega
  have hfa : b + 2 < fa ∧ fa + 5 < b + 15 := by clear q2 q3; omega
  have hbo : b + 22 < bo ∧ bo + 1 < b + 27 := by clear q1 q2; omega
  clear q1 q2 q3
  unfold F_X9_restore
  rw [m_gi a0, k9]
  refine ⟨fun e0 => ?_, fun l0 => ?_⟩
  · rw [e0, if_pos (show Int32.ofNat 0 ≤ 0 by decide)]
  obtain ⟨v1, i0, ⟨i1, ist⟩, i4, iwo⟩ := him9 (ni - 1) (by omega)
  obtain ⟨u1, u2, u3⟩ := k10 (ni - 1) (by omega)
  obtain ⟨g1, ⟨g2, g3⟩, g4⟩ := him (ni - 1) (by omega)
  have hi3 : ni - 1 < 3 := by omega
  have e9 : ni = ni - 1 + 1 := by omega
  generalize ni - 1 = i at v1 i0 i1 ist i4 iwo u1 u2 u3 g1 g2 g3 g4 hi3 e9 ⊢
  subst e9
  have E1 : b + 154 + 54 * i + 1 = b + 155 + 54 * i := by omega
  have E4 : b + 154 + 54 * i + 4 = b + 158 + 54 * i := by omega
  rw [E1] at i1 ist
  rw [E4] at i4 iwo
  obtain ⟨f1, x1, y1, r1⟩ := qc_take (N := N) (f := ax2 f b 12 (Int32.ofNat i)) (by omega) hst ist (by omega)
  obtain ⟨f2, x2, z2, y2, r2⟩ := qc_wtake (f := f1) hwo iwo (by omega) hN g1 (by rw [r1 _ (by omega) (by omega) (by omega), ax2_n _ _ _ _ (by omega), u1])
  have o1b : ∀ k, k ≠ 12 → f1 b k = f b k := fun k hk => by rw [r1 b (by omega) (by omega) (by omega), ax2_j _ _ _ _ _ hk]
  have o112 : f1 b 12 = Int32.ofNat i := by rw [r1 b (by omega) (by omega) (by omega), ax2_k]
  have o2b : ∀ k, k ≠ 12 → f2 b k = f b k := fun k hk => by rw [r2 b (by omega) (by omega), o1b k hk]
  have o212 : f2 b 12 = Int32.ofNat i := by rw [r2 b (by omega) (by omega), o112]
  have o2 : ∀ x, x ≠ b → ¬ (b + 31 ≤ x ∧ x ≤ b + 33) → x ≠ b + 37 → ¬ (b + 39 ≤ x ∧ x ≤ b + 86) → f2 x = f x := fun x p q s v => by rw [r2 x (by omega) (by omega), r1 x (by omega) (by omega) (by omega), ax2_n _ _ _ _ p]
  have o3 : ∀ x, x ≠ b → ¬ (b + 31 ≤ x ∧ x ≤ b + 33) → x ≠ b + 37 → ¬ (b + 39 ≤ x ∧ x ≤ b + 86) → ax2 f2 b 13 0 x = f x := fun x p q s v => by rw [ax2_n _ _ _ _ p, o2 x p q s v]
  have rnow : rdSt (ax2 f2 b 13 0) (b + 31) = (im i).2.1 := by
    rw [rdSt_e (f := ax2 f2 b 13 0) (g := f1) (by rw [ax2_n _ _ _ _ (by omega), r2 _ (by omega) (by omega)]) (by rw [ax2_n _ _ _ _ (by omega), r2 _ (by omega) (by omega)]) (by rw [ax2_n _ _ _ _ (by omega), r2 _ (by omega) (by omega)]), y1, ← u2]
    exact rdSt_e (ax2_n _ _ _ _ (by omega)) (ax2_n _ _ _ _ (by omega)) (ax2_n _ _ _ _ (by omega))
  refine ⟨ax2 f2 b 13 0, ?_, CA.mk ⟨fa, sf, la, sl, bo, sb, ⟨hC, ?_, hw, hl.e (o3 _ (by omega) (by omega) (by omega) (by omega)) (o3 _ (by omega) (by omega) (by omega) (by omega)), hlw, rnow, g2⟩, ?_⟩ (hK.e fun x p q => o3 x (by omega) (by omega) (by omega) (by omega)) hT (by rw [o3 _ (by omega) (by omega) (by omega) (by omega), k1]) (by rw [o3 _ (by omega) (by omega) (by omega) (by omega), k3]) ⟨fun j hj => by rw [o3 _ (by omega) (by omega) (by omega) (by omega), k2 j hj], ax2_k _ _ _ _, by rw [ax2_j _ _ _ _ _ (by omega), o2b _ (by omega), k5], by rw [ax2_j _ _ _ _ _ (by omega), o2b _ (by omega), k6], by rw [ax2_n _ _ _ _ (by omega), z2], fun w hw => ?_, by rw [ax2_j _ _ _ _ _ (by omega), o212], fun j hj => ?_⟩, fun x hx => o3 x (by omega) (by omega) (by omega) (by omega)⟩
  · rw [if_neg (show ¬ Int32.ofNat (i + 1) ≤ 0 from qi_nge (j := 0) (by omega) (by omega)), m_gi a0, k9, m_gr a0 p11, m_len (t := 3) s11 (by omega), if_pos (qi_ge (by omega) (by omega)), m_gi a0, k9, m_pi a0, qi_m2 (by omega), Nat.add_sub_cancel, m_gr a0 p8, m_gr a0 p11, m_gi a0, ax2_k, m_ldrn (t := 1) s11 (by omega) hi3 (by omega) v1, m_gr i0 i1, m_is hst.1, x1, axBV_s, m_gr a0 p10, m_gr a0 p11, m_gi a0, o112, m_ldrn (t := 1) s11 (by omega) hi3 (by omega) v1, m_gr i0 i4, m_is hwo.1, x2, axBV_s, m_pi a0, m_gi a0, ax2_j _ _ _ _ _ (by omega), o212]
  · rw [← hF]
    exact rdF_e fun x p q => o3 x (by omega) (by omega) (by omega) (by omega)
  · unfold clB at hB ⊢
    rw [o3 bo (by omega) (by omega) (by omega) (by omega), o3 (bo + 1) (by omega) (by omega) (by omega) (by omega)]
    exact hB
  · rw [rdSt_e (f := ax2 f2 b 13 0) (g := f2) (ax2_n _ _ _ _ (by omega)) (ax2_n _ _ _ _ (by omega)) (ax2_n _ _ _ _ (by omega)), show b + 39 + 3 * w = b + 37 + 2 + 3 * w by omega, y2 w hw, ← u3 w hw, show b + 160 + 54 * i + 3 * w = b + 158 + 54 * i + 2 + 3 * w by omega]
    exact rdSt_e (by rw [r1 _ (by omega) (by omega) (by omega), ax2_n _ _ _ _ (by omega)]) (by rw [r1 _ (by omega) (by omega) (by omega), ax2_n _ _ _ _ (by omega)]) (by rw [r1 _ (by omega) (by omega) (by omega), ax2_n _ _ _ _ (by omega)])
  · obtain ⟨v1, v2, v3⟩ := k10 j (by omega)
    refine ⟨by rw [o3 _ (by omega) (by omega) (by omega) (by omega), v1], ?_, fun w hw => ?_⟩
    · rw [← v2]
      exact rdSt_e (o3 _ (by omega) (by omega) (by omega) (by omega)) (o3 _ (by omega) (by omega) (by omega) (by omega)) (o3 _ (by omega) (by omega) (by omega) (by omega))
    · have := (him j (by omega)).1
      rw [← v3 w hw]
      exact rdSt_e (o3 _ (by omega) (by omega) (by omega) (by omega)) (o3 _ (by omega) (by omega) (by omega) (by omega)) (o3 _ (by omega) (by omega) (by omega) (by omega))
theorem VA.img (hV : VA ψ nb t nw wk ni im) (c : ni < 3) (hr : q_ok ψ 999 r) (h12 : r 12 = 0) : VA ψ nb t nw wk (ni + 1) (q_im ni nw r wk im) := by
  obtain ⟨h1, h2, h3, h4, h5, h6⟩ := hV
  refine ⟨h1, h2, h3, h4, by omega, fun i hi => ?_⟩
  unfold q_im
  by_cases c : i = ni
  · rw [if_pos c]
    exact ⟨h3, ⟨hr, h12⟩, h4⟩
  · rw [if_neg c]
    exact h6 i (by omega)
theorem VA.res (hV : VA ψ nb t nw wk ni im) (c : 0 < ni) : VA ψ nb t (im (ni - 1)).1 (im (ni - 1)).2.2 (ni - 1) im := by
  obtain ⟨h1, h2, h3, h4, h5, h6⟩ := hV
  obtain ⟨g1, g2, g3⟩ := h6 (ni - 1) (by omega)
  exact ⟨h1, h2, g1, g3, by omega, fun i hi => h6 i (by omega)⟩
end
