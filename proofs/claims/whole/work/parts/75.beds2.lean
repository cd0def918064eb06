/-! beds: the model -/
theorem qi_sh {a k : Nat} (ha : a < 1000000) (hk : k < 1000000) : (Int32.ofNat a + (-1) < Int32.ofNat k) = (a < k + 1) := by
  by_cases h : a = 0
  · subst h
    refine propext ⟨fun _ => by omega, fun _ => ?_⟩
    rw [Int32.lt_iff_toInt_lt, qi_i (by omega), show (Int32.ofNat 0 + (-1)).toInt = -1 by decide]
    omega
  · rw [qi_m1 (by omega), qi_lt (by omega) (by omega)]
    exact propext ⟨fun _ => by omega, fun _ => by omega⟩
section
variable {Z : AxS} {b m fa sf la sl bo sb N B : Nat} {ψ : QF} {l : QL} {r ρ : QR} {f f0 : Nat → Nat → Int32}
theorem HM.bd (h : LMo Z m) : (axP Z m 42 = some (m + 527) ∧ axL Z (m + 527) = some (1, 8)) ∧ (axP Z m 43 = some (m + 528) ∧ axL Z (m + 528) = some (1, 8)) := ⟨⟨h.2.1 42 527 rfl, h.2.2.1 527 _ rfl⟩, h.2.1 43 528 rfl, h.2.2.1 528 _ rfl⟩
theorem HM.nm (h : HM Z m f ψ l r) : (axP Z m 12 = some (m + 4) ∧ axL Z (m + 4) = some (1, 7)) ∧ f (m + 4) 1 = Int32.ofNat (ψ 0 4).toNatClampNeg ∧ f (m + 4) 2 = Int32.ofNat (ψ 0 5).toNatClampNeg ∧ (ψ 0 5).toNatClampNeg ≤ (ψ 0 4).toNatClampNeg ∧ (ψ 0 4).toNatClampNeg ≤ 8 := by
  have hw := h.2.2.1
  obtain ⟨-, ⟨nc, c8, enc, etc⟩, ⟨nm, m8, enm, etm⟩, -⟩ := q_fw_n h.2.2.1
  have hmc : nm ≤ nc := by
    obtain ⟨⟨nv, nc', nm', nh, e1, e2, e3, e4, b1, b2, b3, b4, -⟩, -⟩ := hw
    rw [e2, qi_tn (by omega)] at etc
    rw [e3, qi_tn (by omega)] at etm
    omega
  refine ⟨⟨h.1.2.1 12 4 rfl, h.1.2.2.1 4 _ rfl⟩, ?_, ?_, by omega, by omega⟩
  · rw [etc, ← enc]
    exact rdG_0 h.2.1 (show 4 < 7 by omega)
  · rw [etm, ← enm]
    exact rdG_0 h.2.1 (show 5 < 7 by omega)
theorem qm_beds36 (kr : Nat → Int32 → Int32 → Int32 → Int32 → AxS → Option AxS) {k : Nat} (hk : k ≤ 8) (hm : LMo Z m) : ∀ (n i fu : Nat) (f : Nat → Nat → Int32), i + n = k → n < fu → ∃ f', F_X10_bedsFrom_36 N kr fu m (Int32.ofNat k) (Int32.ofNat i) (axM Z f) = some (axM Z f') ∧ (∀ j, j < k → f' (m + 528) j = if j < i then f (m + 528) j else f (m + 527) j) ∧ ∀ x, x ≠ m + 528 → f' x = f x := by
  obtain ⟨⟨p1, s1⟩, p2, s2⟩ := HM.bd hm
  intro n
  induction n with
  | zero =>
    intro i fu f hi hfu
    obtain ⟨fu, rfl⟩ : ∃ q, fu = q + 1 := ⟨fu - 1, by omega⟩
    show ∃ f', F_X10_bedsFrom_36b N kr (F_X10_bedsFrom_36 N kr fu) m (Int32.ofNat k) (Int32.ofNat i) (axM Z f) = _ ∧ _
    unfold F_X10_bedsFrom_36b
    rw [if_pos (qi_ge (by omega) (by omega))]
    exact ⟨f, rfl, fun j hj => by rw [if_pos (by omega)], fun _ _ => rfl⟩
  | succ n ih =>
    intro i fu f hi hfu
    obtain ⟨fu, rfl⟩ : ∃ q, fu = q + 1 := ⟨fu - 1, by omega⟩
    show ∃ f', F_X10_bedsFrom_36b N kr (F_X10_bedsFrom_36 N kr fu) m (Int32.ofNat k) (Int32.ofNat i) (axM Z f) = _ ∧ _
    unfold F_X10_bedsFrom_36b
    rw [if_neg (qi_nge (by omega) (by omega)), m_gr hm.1 p2, m_gr hm.1 p1, m_ldn s1 (show i < 8 by omega) (by omega), m_stn s2 (show i < 8 by omega) (by omega), qi_s]
    obtain ⟨f', e, g1, g2⟩ := ih (i + 1) fu (ax2 f (m + 528) i (f (m + 527) i)) (by omega) (by omega)
    refine ⟨f', e, fun j hj => ?_, fun x hx => by rw [g2 x hx, ax2_n _ _ _ _ hx]⟩
    rw [g1 j hj, ax2_a, ax2_n _ _ _ _ (show m + 527 ≠ m + 528 by omega)]
    by_cases c1 : j < i
    · rw [if_pos c1, if_pos (by omega), if_neg (by omega)]
    · rw [if_neg c1]
      by_cases c2 : j = i
      · rw [if_pos (by omega), if_pos c2, c2]
      · rw [if_neg (by omega)]
/-- what a search leaves: better, or as it was -/
def bedsR (f f' : Nat → Nat → Int32) (m nm k a A y : Nat) (L : Nat → Nat) : Prop := if A < a + y + 1 then f' m 44 = Int32.ofNat (a + y + 1) + (-1) ∧ ∀ i, i < nm → f' (m + 528) i = if i < k then f (m + 527) i else Int32.ofNat (L i) else f' m 44 = f m 44 ∧ f' (m + 528) = f (m + 528)
def bedsO (f f' : Nat → Nat → Int32) (m nm k a A : Nat) (o : Option (Nat × Nat)) (L : Nat → Nat → Nat) : Prop := match o with
  | none => f' m 44 = f m 44 ∧ f' (m + 528) = f (m + 528)
  | some z => bedsR f f' m nm k a A z.1 (fun i => if i = k then z.2 else L z.2 i)
theorem qm_beds (hN : 2000 < N) {s : Int32} {nc nm : Nat} (hc : (ψ 0 4).toNatClampNeg = nc) (hnm : (ψ 0 5).toNatClampNeg = nm) : ∀ (d n k T a A : Nat) (f : Nat → Nat → Int32), k + n = nm → n < d → T < 2 ^ nc → q_pop T = k → a ≤ k → HM Z m f ψ l r → f m 44 = Int32.ofNat A + (-1) → A ≤ 100 → ∃ f', GG_X10_bedsFrom N d m (Int32.ofNat k) (Int32.ofNat T) (Int32.ofNat a) s (axM Z f) = some (axM Z f') ∧ KM m f f' ∧ (∀ i, i < k → f' (m + 527) i = f (m + 527) i) ∧ bedsR f f' m nm k a A (q_bV ψ s nc n k T) (q_bL ψ s nc n k T) := by
  intro d
  induction d with
  | zero => intro n k T a A f h1 h2; exact absurd h2 (by omega)
  | succ d ihd =>
    intro n k T a A f hk hn hT hp ha h hA hA1
    show ∃ f', F_X10_bedsFrom N (GG_X10_bedsFrom N d) m (Int32.ofNat k) (Int32.ofNat T) (Int32.ofNat a) s (axM Z f) = _ ∧ _
    have h0 := h.1.1
    obtain ⟨⟨p12, s4⟩, e4, e5, hmc, hc8⟩ := h.nm
    rw [hc] at e4
    rw [hnm] at e5
    rw [hc, hnm] at hmc
    rw [hc] at hc8
    have hV := q_bV_le ψ s nc n k T
    have h256 := (q_tab4 nc (by omega)).1
    unfold F_X10_bedsFrom
    rw [m_gr h0 p12, m_ld7_2 s4, e5, m_gi h0, hA, qi_add, qi_sub (by omega)]
    have hsh := qi_sh (a := A) (k := a + nm - k) (by omega) (by omega)
    by_cases cA : A < a + nm - k + 1
    · rw [if_pos (show Int32.ofNat A + (-1) < Int32.ofNat (a + nm - k) by rw [hsh]; exact cA), m_gr h0 p12, m_ld7_2 s4, e5]
      cases n with
      | zero =>
        rw [if_pos (show Int32.ofNat k = Int32.ofNat nm by rw [show k = nm by omega]), m_pi h0]
        obtain ⟨f1, e1, g1, fr1⟩ := qm_beds36 (N := N) (GG_X10_bedsFrom N d) (show k ≤ 8 by omega) h.1 k 0 N (ax2 f m 44 (Int32.ofNat a)) (by omega) (by omega)
        refine ⟨f1, e1, (KM.w f _ (Or.inl rfl)).tr (KM.sc (fun x hx => fr1 x (by unfold scM at hx; omega))), fun i hi => by rw [fr1 _ (by omega), ax2_n _ _ _ _ (by omega)], ?_⟩
        unfold bedsR
        rw [if_pos (show A < a + q_bV ψ s nc 0 k T + 1 by show A < a + 0 + 1; omega)]
        refine ⟨?_, fun i hi => ?_⟩
        · rw [fr1 _ (by omega), ax2_k]
          show _ = Int32.ofNat (a + 0 + 1) + (-1)
          rw [qi_m1 (by omega), Nat.add_sub_cancel, Nat.add_zero]
        · rw [g1 i (by omega), if_neg (by omega), ax2_n _ _ _ _ (by omega), if_pos (by omega)]
      | succ n =>
        rw [if_neg (qi_ne (show k ≠ nm by omega) (by omega) (by omega))]
        have loop : ∀ (c' c fu A : Nat) (f : Nat → Nat → Int32), c + c' = nc → c' < fu → HM Z m f ψ l r → f m 44 = Int32.ofNat A + (-1) → A ≤ 100 → ∃ f', F_X10_bedsFrom_66 N (GG_X10_bedsFrom N d) fu m (Int32.ofNat k) (Int32.ofNat T) (Int32.ofNat a) s (Int32.ofNat c) (axM Z f) = some (axM Z f') ∧ KM m f f' ∧ (∀ i, i < k → f' (m + 527) i = f (m + 527) i) ∧ bedsO f f' m nm k a A (q_bw T (q_bx ψ s nc n k T) c' c) (fun z => q_bL ψ s nc n (k + 1) (T ||| 2 ^ z)) := by
          clear h h0 e4 e5 hA hA1 cA p12 s4 hsh
          intro c'
          induction c' with
          | zero =>
            intro c fu A f hcc hfu h hA hA1
            obtain ⟨fu, rfl⟩ : ∃ q, fu = q + 1 := ⟨fu - 1, by omega⟩
            show ∃ f', F_X10_bedsFrom_66b N (GG_X10_bedsFrom N d) (F_X10_bedsFrom_66 N (GG_X10_bedsFrom N d) fu) m (Int32.ofNat k) (Int32.ofNat T) (Int32.ofNat a) s (Int32.ofNat c) (axM Z f) = _ ∧ _
            obtain ⟨⟨p12, s4⟩, e4, e5, -, -⟩ := h.nm
            rw [hc] at e4
            unfold F_X10_bedsFrom_66b
            rw [m_gr h.1.1 p12, m_ld7_1 s4, e4, if_pos (qi_ge (by omega) (by omega))]
            exact ⟨f, rfl, KM.rf _ _, fun _ _ => rfl, rfl, rfl⟩
          | succ c' ih =>
            intro c fu A f hcc hfu h hA hA1
            obtain ⟨fu, rfl⟩ : ∃ q, fu = q + 1 := ⟨fu - 1, by omega⟩
            show ∃ f', F_X10_bedsFrom_66b N (GG_X10_bedsFrom N d) (F_X10_bedsFrom_66 N (GG_X10_bedsFrom N d) fu) m (Int32.ofNat k) (Int32.ofNat T) (Int32.ofNat a) s (Int32.ofNat c) (axM Z f) = _ ∧ _
            have h0 := h.1.1
            obtain ⟨⟨p12, s4⟩, e4, e5, -, -⟩ := h.nm
            rw [hc] at e4
            obtain ⟨⟨p42, s42⟩, -⟩ := HM.bd h.1
            obtain ⟨g1, g2, g3⟩ := LMo_of h.1
            obtain ⟨g4, g5⟩ := g3 2 (by omega)
            unfold F_X10_bedsFrom_66b F_X10_bedsFrom_133 F_X10_bedsFrom_139
            rw [m_gr h0 p12, m_ld7_1 s4, e4, if_neg (qi_nge (by omega) (by omega)), m_has, axB_s, qi_s]
            have ht2 := q_tab2 T (by omega) c (by omega)
            cases hb : T.testBit c
            · rw [hb] at ht2
              rw [if_neg (show ¬ q_bit (Int32.ofNat T) (Int32.ofNat c) = 1 by rw [ht2.1]; decide), if_pos rfl, m_gr h0 p42, m_stn s42 (show k < 8 by omega) (by omega), m_is h0]
              have hor := q_orlt (show nc < 9 by omega) hT (show c < nc by omega)
              have K1 : KM m f (ax2 f (m + 527) k (Int32.ofNat c)) := KM.a f _ (show scM m (m + 527) by unfold scM; omega)
              have h1 := h.km K1
              obtain ⟨c8, cx⟩ := q_fw_cell h.2.2.1 (show c < (ψ 0 4).toNatClampNeg by omega)
              have el : ax2 f (m + 527) k (Int32.ofNat c) (m + 13 + 2) k = ψ 4 k := by
                rw [ax2_n _ _ _ _ (by omega)]
                exact rdG_4 h.2.1 (by omega)
              rw [qm_noiseOf h.1 h1.2.1 (by omega) c8 cx (Or.inl rfl), axB_s, m_gr h0 g1, m_ldr_2 g2 (by omega) (by omega) g4, m_ldn g5 (show k < 8 by omega) (by omega), el, ht2.2.1, qi_s, m_is h0]
              have hx := q_bx_le ψ s nc n k T c
              have hsg := q_sg_le ψ s k c
              have go : ∃ f', (axBV (GG_X10_bedsFrom N d m (Int32.ofNat (k + 1)) (Int32.ofNat (T ||| 2 ^ c)) (Int32.ofNat (a + q_sg ψ s k c)) s (axM Z (ax2 f (m + 527) k (Int32.ofNat c)))) fun T2 => F_X10_bedsFrom_66 N (GG_X10_bedsFrom N d) fu m (Int32.ofNat k) (Int32.ofNat T) (Int32.ofNat a) s (Int32.ofNat (c + 1)) T2) = some (axM Z f') ∧ KM m f f' ∧ (∀ i, i < k → f' (m + 527) i = f (m + 527) i) ∧ bedsO f f' m nm k a A (q_bw T (q_bx ψ s nc n k T) (c' + 1) c) (fun z => q_bL ψ s nc n (k + 1) (T ||| 2 ^ z)) := by
                obtain ⟨f2, e2, k2, b2, r2⟩ := ihd n (k + 1) (T ||| 2 ^ c) (a + q_sg ψ s k c) A (ax2 f (m + 527) k (Int32.ofNat c)) (by omega) (by omega) hor (by rw [(ht2.2.2 rfl).1, hp]) (by omega) h1 (by rw [ax2_n _ _ _ _ (by omega)]; exact hA) hA1
                rw [e2, axBV_s]
                have hb2 : ∀ i, i < k → f2 (m + 527) i = f (m + 527) i := fun i hi => by rw [b2 i (by omega), ax2_j _ _ _ _ _ (by omega)]
                have hbk : f2 (m + 527) k = Int32.ofNat c := by rw [b2 k (by omega), ax2_k]
                unfold bedsR at r2
                rw [Nat.add_assoc a] at r2
                change (if A < a + q_bx ψ s nc n k T c + 1 then f2 m 44 = Int32.ofNat (a + q_bx ψ s nc n k T c + 1) + (-1) ∧ _ else _) at r2
                rw [q_bw_f _ _ hb]
                by_cases cy : A < a + q_bx ψ s nc n k T c + 1
                · rw [if_pos cy] at r2
                  obtain ⟨r3, r4⟩ := r2
                  obtain ⟨f3, e3, k3, b3, r5⟩ := ih (c + 1) fu (a + q_bx ψ s nc n k T c + 1) f2 (by omega) (by omega) (h1.km k2) r3 (by omega)
                  refine ⟨f3, e3, K1.tr (k2.tr k3), fun i hi => by rw [b3 i hi, hb2 i hi], ?_⟩
                  have keep : ∀ i, i < nm → f2 (m + 528) i = if i < k then f (m + 527) i else Int32.ofNat (if i = k then c else q_bL ψ s nc n (k + 1) (T ||| 2 ^ c) i) := fun i hi => by
                    rw [r4 i hi]
                    by_cases c1 : i < k
                    · rw [if_pos (by omega), if_pos c1, ax2_j _ _ _ _ _ (by omega)]
                    · rw [if_neg c1]
                      by_cases c2 : i = k
                      · rw [if_pos (by omega), if_pos c2, c2, ax2_k]
                      · rw [if_neg (by omega), if_neg c2]
                  cases hr : q_bw T (q_bx ψ s nc n k T) c' (c + 1) with
                  | none =>
                    rw [hr] at r5
                    obtain ⟨r6, r7⟩ : f3 m 44 = f2 m 44 ∧ f3 (m + 528) = f2 (m + 528) := r5
                    show bedsR f f3 m nm k a A (q_bx ψ s nc n k T c) (fun i => if i = k then c else q_bL ψ s nc n (k + 1) (T ||| 2 ^ c) i)
                    unfold bedsR
                    rw [if_pos cy]
                    exact ⟨by rw [r6, r3], fun i hi => by rw [r7]; exact keep i hi⟩
                  | some z =>
                    rw [hr] at r5
                    have r5 : bedsR f2 f3 m nm k a (a + q_bx ψ s nc n k T c + 1) z.1 (fun i => if i = k then z.2 else q_bL ψ s nc n (k + 1) (T ||| 2 ^ z.2) i) := r5
                    unfold bedsR at r5
                    show bedsO f f3 m nm k a A (if q_bx ψ s nc n k T c < z.1 then some z else some (q_bx ψ s nc n k T c, c)) _
                    by_cases cz : q_bx ψ s nc n k T c < z.1
                    · rw [if_pos cz]
                      rw [if_pos (by omega)] at r5
                      show bedsR f f3 m nm k a A z.1 (fun i => if i = k then z.2 else q_bL ψ s nc n (k + 1) (T ||| 2 ^ z.2) i)
                      unfold bedsR
                      rw [if_pos (by omega)]
                      refine ⟨r5.1, fun i hi => ?_⟩
                      rw [r5.2 i hi]
                      by_cases c1 : i < k
                      · rw [if_pos c1, if_pos c1, hb2 i c1]
                      · rw [if_neg c1, if_neg c1]
                    · rw [if_neg cz]
                      rw [if_neg (by omega)] at r5
                      show bedsR f f3 m nm k a A (q_bx ψ s nc n k T c) (fun i => if i = k then c else q_bL ψ s nc n (k + 1) (T ||| 2 ^ c) i)
                      unfold bedsR
                      rw [if_pos cy]
                      exact ⟨by rw [r5.1, r3], fun i hi => by rw [r5.2]; exact keep i hi⟩
                · rw [if_neg cy] at r2
                  obtain ⟨r3, r4⟩ := r2
                  have r3' : f2 m 44 = f m 44 := by rw [r3, ax2_n _ _ _ _ (by omega)]
                  have r4' : f2 (m + 528) = f (m + 528) := by rw [r4, ax2_n _ _ _ _ (by omega)]
                  obtain ⟨f3, e3, k3, b3, r5⟩ := ih (c + 1) fu A f2 (by omega) (by omega) (h1.km k2) (by rw [r3', hA]) hA1
                  refine ⟨f3, e3, K1.tr (k2.tr k3), fun i hi => by rw [b3 i hi, hb2 i hi], ?_⟩
                  cases hr : q_bw T (q_bx ψ s nc n k T) c' (c + 1) with
                  | none =>
                    rw [hr] at r5
                    obtain ⟨r6, r7⟩ : f3 m 44 = f2 m 44 ∧ f3 (m + 528) = f2 (m + 528) := r5
                    show bedsR f f3 m nm k a A (q_bx ψ s nc n k T c) (fun i => if i = k then c else q_bL ψ s nc n (k + 1) (T ||| 2 ^ c) i)
                    unfold bedsR
                    rw [if_neg cy]
                    exact ⟨by rw [r6, r3'], by rw [r7, r4']⟩
                  | some z =>
                    rw [hr] at r5
                    have r5 : bedsR f2 f3 m nm k a A z.1 (fun i => if i = k then z.2 else q_bL ψ s nc n (k + 1) (T ||| 2 ^ z.2) i) := r5
                    unfold bedsR at r5
                    show bedsO f f3 m nm k a A (if q_bx ψ s nc n k T c < z.1 then some z else some (q_bx ψ s nc n k T c, c)) _
                    by_cases cz : q_bx ψ s nc n k T c < z.1
                    · rw [if_pos cz]
                      show bedsR f f3 m nm k a A z.1 (fun i => if i = k then z.2 else q_bL ψ s nc n (k + 1) (T ||| 2 ^ z.2) i)
                      unfold bedsR
                      by_cases cA2 : A < a + z.1 + 1
                      · rw [if_pos cA2] at r5 ⊢
                        refine ⟨r5.1, fun i hi => ?_⟩
                        rw [r5.2 i hi]
                        by_cases c1 : i < k
                        · rw [if_pos c1, if_pos c1, hb2 i c1]
                        · rw [if_neg c1, if_neg c1]
                      · rw [if_neg cA2] at r5 ⊢
                        exact ⟨by rw [r5.1, r3'], by rw [r5.2, r4']⟩
                    · rw [if_neg cz]
                      rw [if_neg (by omega)] at r5
                      show bedsR f f3 m nm k a A (q_bx ψ s nc n k T c) (fun i => if i = k then c else q_bL ψ s nc n (k + 1) (T ||| 2 ^ c) i)
                      unfold bedsR
                      rw [if_neg cy]
                      exact ⟨by rw [r5.1, r3'], by rw [r5.2, r4']⟩
              unfold q_sg q_slp at go
              by_cases q : q_noise ψ c s 0 ≤ ψ 4 k
              · rw [if_pos (decide_eq_true q)] at go
                rw [if_pos q, qi_s]
                exact go
              · rw [if_neg (fun z => q (of_decide_eq_true z))] at go
                rw [if_neg q, Int32.add_zero, m_is h0, qi_s]
                exact go
            · rw [hb] at ht2
              rw [if_pos (show q_bit (Int32.ofNat T) (Int32.ofNat c) = 1 by rw [ht2.1]; decide), if_neg (show ¬ (1 : Int32) = 0 by decide), q_bw_t _ _ hb, qi_s]
              exact ih (c + 1) fu A f (by omega) (by omega) h hA hA1
        obtain ⟨f1, e1, k1, b1, r1⟩ := loop nc 0 N A f (by omega) (by omega) h hA hA1
        refine ⟨f1, e1, k1, b1, ?_⟩
        obtain ⟨z, hz⟩ := q_bw_some (q_bx ψ s nc n k T) (show nc < 9 by omega) hT hp (by omega)
        rw [hz] at r1
        have r1 : bedsR f f1 m nm k a A z.1 (fun i => if i = k then z.2 else q_bL ψ s nc n (k + 1) (T ||| 2 ^ z.2) i) := r1
        rw [q_bV_s, hz]
        have eL : q_bL ψ s nc (n + 1) k T = fun i => if i = k then z.2 else q_bL ψ s nc n (k + 1) (T ||| 2 ^ z.2) i := by
          funext i
          rw [q_bL_s, hz]
          rfl
        rw [eL]
        exact r1
    · rw [if_neg (show ¬ Int32.ofNat A + (-1) < Int32.ofNat (a + nm - k) by rw [hsh]; exact cA)]
      refine ⟨f, rfl, KM.rf _ _, fun _ _ => rfl, ?_⟩
      unfold bedsR
      rw [if_neg (by omega)]
      exact ⟨rfl, rfl⟩
theorem qm_lays (hN : 2000 < N) (h : HM Z m f ψ l r) (s : Int32) : ∃ f', F_X10_laysBeds N m s (axM Z f) = some (axM Z f') ∧ KM m f f' ∧ f' m 44 = Int32.ofNat (q_bV ψ s (ψ 0 4).toNatClampNeg (ψ 0 5).toNatClampNeg 0 0) ∧ ∀ i, i < (ψ 0 5).toNatClampNeg → f' (m + 528) i = Int32.ofNat (q_bL ψ s (ψ 0 4).toNatClampNeg (ψ 0 5).toNatClampNeg 0 0 i) := by
  have h0 := h.1.1
  have K1 : KM m f (ax2 f m 44 (-1)) := KM.w f _ (Or.inl rfl)
  obtain ⟨-, -, -, hmc, hc8⟩ := h.nm
  obtain ⟨f1, e1, k1, b1, r1⟩ := qm_beds (N := N) (s := s) hN rfl rfl 11 (ψ 0 5).toNatClampNeg 0 0 0 0 (ax2 f m 44 (-1)) (by omega) (by omega) ((q_tab4 _ (by omega)).2.1) rfl (by omega) (h.km K1) (by rw [ax2_k]; decide) (by omega)
  unfold F_X10_laysBeds G_X10_bedsFrom
  rw [m_pi h0, m_is h0, show GG_X10_bedsFrom N 11 m 0 0 0 s (axM Z (ax2 f m 44 (-1))) = _ from e1, axBV_s]
  unfold bedsR at r1
  rw [if_pos (by omega), Nat.zero_add, qi_m1 (by omega), Nat.add_sub_cancel] at r1
  exact ⟨f1, rfl, K1.tr k1, r1.1, fun i hi => by rw [r1.2 i hi, if_neg (by omega)]⟩
theorem qm_bedsA (hN : 2000 < N) (h : HM Z m f ψ l r) (s : Int32) : ((0 ≤ s ∧ s ≤ 999) → MQz Z m f (F_X10_beds N m s (axM Z f)) (Int32.ofNat (q_bV ψ s (ψ 0 4).toNatClampNeg (ψ 0 5).toNatClampNeg 0 0))) ∧ (¬ (0 ≤ s ∧ s ≤ 999) → MTz Z m f (F_X10_beds N m s (axM Z f)) 1 1) := by
  have h' := h.t0
  have h0 := h.1.1
  unfold F_X10_beds F_X10_beds_22
  rw [m_pi h0, m_in, axB_s]
  refine ⟨fun c => ?_, fun c => ?_⟩
  · obtain ⟨f1, e1, k1, v1, w1⟩ := qm_lays hN h' s
    rw [if_pos c, if_neg (by decide), m_is h0, qm_badF N h0, m_is h0, e1, axBV_s, m_gi h0, v1]
    exact MQz.mkk f1 rfl k1
  · rw [if_neg c, if_pos rfl, m_is h0]
    exact qm_badT1 N h.1 _ _
theorem qm_bed (hN : 2000 < N) (h : HM Z m f ψ l r) (x s : Int32) : (∀ k, k < (ψ 0 5).toNatClampNeg → x = Int32.ofNat k → (0 ≤ s ∧ s ≤ 999) → MQz Z m f (F_X10_bed N m x s (axM Z f)) (Int32.ofNat (q_bL ψ s (ψ 0 4).toNatClampNeg (ψ 0 5).toNatClampNeg 0 0 k))) ∧ (¬ (0 ≤ x ∧ x < ψ 0 5) → MTz Z m f (F_X10_bed N m x s (axM Z f)) 1 0) ∧ ((0 ≤ x ∧ x < ψ 0 5) → ¬ (0 ≤ s ∧ s ≤ 999) → MTz Z m f (F_X10_bed N m x s (axM Z f)) 2 1) := by
  have h' := h.t0
  have hm := h.1
  have h0 := h.1.1
  obtain ⟨nm, n8, en, et⟩ := (q_fw_n h.2.2.1).2.2.1
  have e5 : ax2 f m 0 0 (m + 4) 2 = Int32.ofNat nm := (rdG_0 h'.2.1 (show 5 < 7 by omega)).trans en
  have hno := qm_isNo (x := x) N hm (show 2 < 7 by omega) (show nm < 2147483648 by omega) e5
  have hno : F_X10_isNo N m 2 x (axM Z (ax2 f m 0 0)) = _ := hno
  rw [← en] at hno
  unfold F_X10_bed F_X10_bed_37
  rw [m_pi h0, m_is h0, hno, axB_s, m_is h0]
  refine ⟨fun k hk ex c => ?_, fun c => ?_, fun c1 c2 => ?_⟩
  · subst ex
    rw [if_pos ⟨qi_ge (i := 0) (by omega) (by omega), by rw [en]; exact qi_gt (by omega) (by omega)⟩, qm_badF N h0, m_in, axB_s, if_pos c, if_neg (by decide), m_is h0, qm_badF N h0, m_is h0]
    obtain ⟨f1, e1, k1, v1, w1⟩ := qm_lays hN h' s
    obtain ⟨-, p43, s43⟩ := HM.bd h.1
    rw [e1, axBV_s, m_gr h0 p43, m_ldn s43 (show k < 8 by omega) (by omega), w1 k hk]
    exact MQz.mkk f1 rfl k1
  · rw [if_neg c]
    exact qm_badN N hm _ _
  · rw [if_pos c1, qm_badF N h0, m_in, axB_s, if_neg c2, if_pos rfl, m_is h0]
    exact qm_badT2 N hm _ _
end
