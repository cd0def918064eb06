/-! the law: the model reads it -/
def MLn (g : Nat → Nat → Int32) (m : Nat) (acc : QL) : Prop := g m 18 = Int32.ofNat acc.length ∧ ∀ k q, acc[k]? = some q → g (m + 179 + k) 0 = q.1 ∧ g (m + 179 + k) 1 = q.2
def NFr (m : Nat) (g g' : Nat → Nat → Int32) : Prop := (∀ x, x ≠ m → ¬ (m + 179 ≤ x ∧ x ≤ m + 338) → g' x = g x) ∧ ∀ j, j ≠ 4 → j ≠ 5 → j ≠ 6 → j ≠ 8 → j ≠ 18 → g' m j = g m j
theorem NFr.rf (m : Nat) (g : Nat → Nat → Int32) : NFr m g g := ⟨fun _ _ _ => rfl, fun _ _ _ _ _ _ => rfl⟩
theorem NFr.tr {m : Nat} {f g h : Nat → Nat → Int32} (h1 : NFr m f g) (h2 : NFr m g h) : NFr m f h := ⟨fun x a b => by rw [h2.1 x a b, h1.1 x a b], fun j a b c d e => by rw [h2.2 j a b c d e, h1.2 j a b c d e]⟩
theorem MFr.nf {m : Nat} {f g : Nat → Nat → Int32} (h : MFr f g m) : NFr m f g := ⟨fun x a _ => h.1 x a, fun j a b c _ _ => h.2 j a b c⟩
theorem MFr.ln {m : Nat} {f g : Nat → Nat → Int32} (h : MFr f g m) {acc : QL} (hL : MLn f m acc) : MLn g m acc := ⟨by rw [h.2 18 (by omega) (by omega) (by omega), hL.1], fun k q e => by rw [h.1 _ (by omega)]; exact hL.2 k q e⟩
theorem MFr.f8 {m : Nat} {f g : Nat → Nat → Int32} (h : MFr f g m) {v : Int32} (e : f m 8 = v) : g m 8 = v := by rw [h.2 8 (by omega) (by omega) (by omega), e]
section
variable {Z : AxS} {m N n p op s D : Nat} {f g g0 : Nat → Nat → Int32} {t : QR} {pl : Int32} {acc : QL} {kr : Nat → AxS → Option AxS} {krp : Nat → QO2}
def QMn (Z : AxS) (m : Nat) (t : QR) (n : Nat) (pl : Int32) (op : Nat) (acc : QL) (g : Nat → Nat → Int32) (r : Option AxS) (o : QO2) : Prop := match o with
  | .inl z => ∃ g' q, r = some (axM Z g') ∧ MT g' m t n q z.1 z.2 ∧ NFr m g g'
  | .inr z => ∃ g', r = some (axM Z g') ∧ MT g' m t n z.2 0 pl ∧ MLn g' m (acc ++ z.1) ∧ g' m 8 = Int32.ofNat op ∧ NFr m g g'
def MKr (Z : AxS) (m : Nat) (t : QR) (n : Nat) (pl : Int32) (op : Nat) (F : AxS → Option AxS) (P : Nat → QO2) : Prop := ∀ (p : Nat) (acc : QL) (g0 g : Nat → Nat → Int32), MT g m t n p 0 pl → MLn g m acc → acc.length ≤ p → g m 8 = Int32.ofNat op → NFr m g0 g → QMn Z m t n pl op acc g0 (F (axM Z g)) (P p)
/-- behind a fault nothing is done -/
def MDd (Z : AxS) (m : Nat) (F : AxS → Option AxS) : Prop := ∀ g : Nat → Nat → Int32, g m 5 ≠ 0 → F (axM Z g) = some (axM Z g)
theorem qm_note (hm : LMo Z m) (h : g m 5 = 0) (hL : MLn g m acc) (ha : acc.length < 160) (a b : Int32) : ∃ g', F_X10_notes N m a b (axM Z g) = some (axM Z g') ∧ MLn g' m (acc ++ [(a, b)]) ∧ (∀ {p k w}, MT g m t n p k w → MT g' m t n p k w) ∧ g' m 8 = g m 8 ∧ NFr m g g' := by
  have h0 := hm.1
  have p20 : axP Z m 20 = some (m + 178) := hm.2.1 20 178 rfl
  have s178 : axL Z (m + 178) = some (3, 160) := hm.2.2.1 178 _ rfl
  obtain ⟨pr, sr⟩ : axP Z (m + 178) acc.length = some (m + 179 + acc.length) ∧ axL Z (m + 179 + acc.length) = some (1, 2) := hm.2.2.2 178 160 2 rfl acc.length ha
  unfold F_X10_notes
  rw [m_gi h0, h, if_pos rfl, m_gr h0 p20, m_gi h0, hL.1, m_ldrn (t := 0) s178 (by omega) ha (by omega) pr, m_stk_0 sr (by omega), m_gr h0 p20, m_gi h0, ax2_n _ _ _ _ (show m ≠ m + 179 + acc.length by omega), hL.1, m_ldrn (t := 0) s178 (by omega) ha (by omega) pr, m_stk_1 sr (by omega), m_gi h0, ax2_n _ _ _ _ (show m ≠ m + 179 + acc.length by omega), ax2_n _ _ _ _ (show m ≠ m + 179 + acc.length by omega), hL.1, m_pi h0, qi_s]
  refine ⟨_, rfl, ⟨?_, fun k q hq => ?_⟩, fun {p k w} hc => ((hc.n (by omega) (by omega)).n (by omega) (by omega)).j (by omega), ?_, fun x a c => by rw [ax2_n _ _ _ _ a, ax2_n _ _ _ _ (by omega), ax2_n _ _ _ _ (by omega)], fun j _ _ _ _ d => by rw [ax2_j _ _ _ _ _ d, ax2_n _ _ _ _ (by omega), ax2_n _ _ _ _ (by omega)]⟩
  · rw [ax2_k, List.length_append]
    rfl
  · rw [ax2_n _ _ _ _ (by omega)]
    by_cases c : k < acc.length
    · rw [List.getElem?_append_left c] at hq
      rw [ax2_n _ _ _ _ (by omega), ax2_n _ _ _ _ (by omega)]
      exact hL.2 k q hq
    · by_cases c2 : k = acc.length
      · subst c2
        rw [List.getElem?_append_right (Nat.le_refl _), Nat.sub_self] at hq
        have e : q = (a, b) := (Option.some.inj hq).symm
        rw [e]
        exact ⟨by rw [ax2_j _ _ _ _ _ (by omega), ax2_k], ax2_k _ _ _ _⟩
      · rw [List.getElem?_append_right (by omega), List.getElem?_eq_none (show [(a, b)].length ≤ k - acc.length by show 1 ≤ _; omega)] at hq
        cases hq
  · rw [ax2_j _ _ _ _ _ (by omega), ax2_n _ _ _ _ (by omega), ax2_n _ _ _ _ (by omega)]
theorem qm_noted (h0 : axL Z m = some (0, 10)) (a b : Int32) (h : g m 5 ≠ 0) : F_X10_notes N m a b (axM Z g) = some (axM Z g) := by
  unfold F_X10_notes
  rw [m_gi h0, if_neg h]
theorem qm_tkn (hN : 2000 < N) (hm : LMo Z m) (h : MT g m t n p 0 pl) {c : Int32} (hc : c ≠ -1) : (∀ z, q_tk t n c p = .inl z → ∃ g' q, F_X10_sign N m c (axM Z g) = some (axM Z g') ∧ MT g' m t n q z.1 z.2 ∧ MFr g g' m) ∧ ∀ z, q_tk t n c p = .inr z → ∃ g', F_X10_sign N m c (axM Z g) = some (axM Z g') ∧ MT g' m t n z 0 pl ∧ MFr g g' m := by
  have r := qm_sign hN hm h hc
  unfold q_tk
  by_cases e : q_B t n (q_bl t n p) = c
  · rw [if_pos e]
    exact ⟨fun z q => (by cases q), fun z q => (by cases q; exact r.1 ⟨rfl, e⟩)⟩
  · rw [if_neg e]
    exact ⟨fun z q => (by cases q; exact r.2 fun y => e y.2), fun z q => (by cases q)⟩
theorem qm_signd (h0 : axL Z m = some (0, 10)) (c : Int32) (h : g m 5 ≠ 0) : F_X10_sign N m c (axM Z g) = some (axM Z g) := by
  unfold F_X10_sign
  rw [m_gi h0, if_neg h]
theorem qm_opens (hm : LMo Z m) (ho : op ≤ 6) (h : MT g m t n p 0 pl) (h8 : g m 8 = Int32.ofNat op) : (6 ≤ op → ∃ g', F_X10_opensOne N m (axM Z g) = some (0, axM Z g') ∧ MT g' m t n p 3 (Int32.ofNat p) ∧ MFr g g' m) ∧ (op < 6 → F_X10_opensOne N m (axM Z g) = some (1, axM Z (ax2 g m 8 (Int32.ofNat (op + 1))))) := by
  have h0 := hm.1
  unfold F_X10_opensOne F_X10_opensOne_28 F_X10_opensOne_45
  rw [m_gi h0, h.2.2.1, if_pos rfl, m_gi h0, h8]
  refine ⟨fun c => ?_, fun c => ?_⟩
  · obtain ⟨g1, e1, x1, fr1⟩ := qm_wrong (N := N) h0 h 3 (Int32.ofNat p)
    rw [if_pos rfl, if_pos rfl] at x1
    rw [if_pos (show Int32.ofNat op = 6 by rw [show op = 6 by omega]; rfl), m_gi h0, h.2.1, m_is h0, e1, axBV_s, m_gi h0, x1.2.2.1, if_neg (show ¬ (3 : Int32) = 0 by decide), m_rz0]
    exact ⟨g1, rfl, x1, fr1⟩
  · rw [if_neg (show ¬ Int32.ofNat op = 6 from qi_ne (j := 6) (by omega) (by omega) (by omega)), m_gi h0, h.2.2.1, if_pos rfl, m_gi h0, h8, m_pi h0, qi_s, m_gi h0, ax2_j _ _ _ _ _ (by omega), h.2.2.1, if_pos rfl, m_rz1]
theorem qm_takes (hN : 2000 < N) (hm : LMo Z m) (h : MT g m t n s 0 pl) (hs : q_bl t n s = s) {a1 a2 a3 a4 a5 a6 a7 : Int32} {cs : List Nat} (hcs : ∀ S, F_X10_seven N a1 a2 a3 a4 a5 a6 a7 S = some (Int64.ofNat (q_E (q_cs cs) cs.length), S)) (hl : q_let cs) : (q_isw t s (q_wrl t n s) cs = true → ∃ g', F_X10_takes N m a1 a2 a3 a4 a5 a6 a7 (axM Z g) = some (1, axM Z g') ∧ MT g' m t n (q_wrl t n s) 0 pl ∧ MFr g g' m) ∧ (¬ q_isw t s (q_wrl t n s) cs = true → ∃ g', F_X10_takes N m a1 a2 a3 a4 a5 a6 a7 (axM Z g) = some (0, axM Z g') ∧ MT g' m t n s 0 pl ∧ MFr g g' m) := by
  have h0 := hm.1
  obtain ⟨g1, e1, x1, fr1⟩ := qm_isWord hN hm h hcs hl
  rw [hs] at e1 x1
  unfold F_X10_takes
  rw [m_is h0, e1, axB_s]
  refine ⟨fun c => ?_, fun c => ?_⟩
  · obtain ⟨g2, e2, x2, fr2⟩ := qm_skip hN hm x1
    simp only [if_pos c]
    rw [if_neg (show ¬ (1 : Int32) = 0 by decide), m_is h0, e2, axBV_s, m_rz1]
    exact ⟨g2, rfl, x2, fr1.tr fr2⟩
  · simp only [if_neg c]
    rw [if_pos trivial, m_rz0]
    exact ⟨g1, rfl, x1, fr1⟩
theorem qm_known (hN : 2000 < N) (hm : LMo Z m) (h : MT g m t n s 0 pl) (hs : q_bl t n s = s) : ∃ g', F_X10_knownHere N m (axM Z g) = some (q_kv t s (q_wrl t n s), axM Z g') ∧ (q_kv t s (q_wrl t n s) = -1 → MT g' m t n s 0 pl) ∧ (q_kv t s (q_wrl t n s) ≠ -1 → MT g' m t n (q_wrl t n s) 0 pl) ∧ MFr g g' m := by
  have hx := hm.1
  have hw := fun (f : Nat → Nat → Int32) (h : MT f m t n s 0 pl) i (hi : i < 9) (a1 a2 a3 a4 a5 a6 a7 : Int32) (hcs : ∀ S, F_X10_seven N a1 a2 a3 a4 a5 a6 a7 S = some (Int64.ofNat (q_E (q_cs (q_V i)) (q_V i).length), S)) => qm_takes hN hm h hs hcs (q_V_let i hi)
  unfold F_X10_knownHere q_kv
  have r2 := hw g h 2 (by omega) 1 19 11 19 0 0 0 (fun _ => rfl)
  by_cases c2 : q_isw t s (q_wrl t n s) (q_V 2) = true
  · obtain ⟨f2, e2, h2, fr2⟩ := r2.1 c2
    rw [m_is hx, e2, axB_s, if_neg (show ¬ (1 : Int32) = 0 by decide)]
    simp only [if_pos c2]
    exact ⟨f2, rfl, fun q => absurd q (by decide), fun _ => h2, (MFr.rf _ _ : MFr g g m).tr fr2⟩
  obtain ⟨f2, e2, h2, fr2⟩ := r2.2 c2
  replace fr2 := (MFr.rf _ _ : MFr g g m).tr fr2
  rw [m_is hx, e2, axB_s, if_pos rfl]
  simp only [if_neg c2]
  have r3 := hw f2 h2 3 (by omega) 16 1 9 4 0 0 0 (fun _ => rfl)
  by_cases c3 : q_isw t s (q_wrl t n s) (q_V 3) = true
  · obtain ⟨f3, e3, h3, fr3⟩ := r3.1 c3
    rw [m_is hx, e3, axB_s, if_neg (show ¬ (1 : Int32) = 0 by decide)]
    simp only [if_pos c3]
    exact ⟨f3, rfl, fun q => absurd q (by decide), fun _ => h3, (fr2 : MFr g f2 m).tr fr3⟩
  obtain ⟨f3, e3, h3, fr3⟩ := r3.2 c3
  replace fr3 := (fr2 : MFr g f2 m).tr fr3
  rw [m_is hx, e3, axB_s, if_pos rfl]
  simp only [if_neg c3]
  have r4 := hw f3 h3 4 (by omega) 14 9 7 8 20 0 0 (fun _ => rfl)
  by_cases c4 : q_isw t s (q_wrl t n s) (q_V 4) = true
  · obtain ⟨f4, e4, h4, fr4⟩ := r4.1 c4
    rw [m_is hx, e4, axB_s, if_neg (show ¬ (1 : Int32) = 0 by decide)]
    simp only [if_pos c4]
    exact ⟨f4, rfl, fun q => absurd q (by decide), fun _ => h4, (fr3 : MFr g f3 m).tr fr4⟩
  obtain ⟨f4, e4, h4, fr4⟩ := r4.2 c4
  replace fr4 := (fr3 : MFr g f3 m).tr fr4
  rw [m_is hx, e4, axB_s, if_pos rfl]
  simp only [if_neg c4]
  have r5 := hw f4 h4 5 (by omega) 17 21 9 5 20 0 0 (fun _ => rfl)
  by_cases c5 : q_isw t s (q_wrl t n s) (q_V 5) = true
  · obtain ⟨f5, e5, h5, fr5⟩ := r5.1 c5
    rw [m_is hx, e5, axB_s, if_neg (show ¬ (1 : Int32) = 0 by decide)]
    simp only [if_pos c5]
    exact ⟨f5, rfl, fun q => absurd q (by decide), fun _ => h5, (fr4 : MFr g f4 m).tr fr5⟩
  obtain ⟨f5, e5, h5, fr5⟩ := r5.2 c5
  replace fr5 := (fr4 : MFr g f4 m).tr fr5
  rw [m_is hx, e5, axB_s, if_pos rfl]
  simp only [if_neg c5]
  have r6 := hw f5 h5 6 (by omega) 23 1 24 0 0 0 0 (fun _ => rfl)
  by_cases c6 : q_isw t s (q_wrl t n s) (q_V 6) = true
  · obtain ⟨f6, e6, h6, fr6⟩ := r6.1 c6
    rw [m_is hx, e6, axB_s, if_neg (show ¬ (1 : Int32) = 0 by decide)]
    simp only [if_pos c6]
    exact ⟨f6, rfl, fun q => absurd q (by decide), fun _ => h6, (fr5 : MFr g f5 m).tr fr6⟩
  obtain ⟨f6, e6, h6, fr6⟩ := r6.2 c6
  replace fr6 := (fr5 : MFr g f5 m).tr fr6
  rw [m_is hx, e6, axB_s, if_pos rfl]
  simp only [if_neg c6]
  have r7 := hw f6 h6 7 (by omega) 19 20 15 18 13 0 0 (fun _ => rfl)
  by_cases c7 : q_isw t s (q_wrl t n s) (q_V 7) = true
  · obtain ⟨f7, e7, h7, fr7⟩ := r7.1 c7
    rw [m_is hx, e7, axB_s, if_neg (show ¬ (1 : Int32) = 0 by decide)]
    simp only [if_pos c7]
    exact ⟨f7, rfl, fun q => absurd q (by decide), fun _ => h7, (fr6 : MFr g f6 m).tr fr7⟩
  obtain ⟨f7, e7, h7, fr7⟩ := r7.2 c7
  replace fr7 := (fr6 : MFr g f6 m).tr fr7
  rw [m_is hx, e7, axB_s, if_pos rfl]
  simp only [if_neg c7]
  have r8 := hw f7 h7 8 (by omega) 3 8 5 19 20 0 0 (fun _ => rfl)
  by_cases c8 : q_isw t s (q_wrl t n s) (q_V 8) = true
  · obtain ⟨f8, e8, h8, fr8⟩ := r8.1 c8
    rw [m_is hx, e8, axB_s, if_neg (show ¬ (1 : Int32) = 0 by decide)]
    simp only [if_pos c8]
    exact ⟨f8, rfl, fun q => absurd q (by decide), fun _ => h8, (fr7 : MFr g f7 m).tr fr8⟩
  obtain ⟨f8, e8, h8, fr8⟩ := r8.2 c8
  replace fr8 := (fr7 : MFr g f7 m).tr fr8
  rw [m_is hx, e8, axB_s, if_pos rfl]
  simp only [if_neg c8]
  exact ⟨f8, rfl, fun _ => h8, fun q => absurd rfl q, fr8⟩
def q_R5 (N m : Nat) (w0 : Int32) (S : AxS) : Option AxS := ax_is S m 10 <| axBV (F_X10_notes N m w0 0 S) fun T52 => ax_gi T52 m 10 8 fun x54 => ax_pi T52 m 10 8 (x54 - 1) fun T55 => some T55
def q_R4 (N m : Nat) (w0 : Int32) (S : AxS) : Option AxS := ax_is S m 10 <| axBV (F_X10_sign N m 93 S) fun T49 => q_R5 N m w0 T49
def q_R3 (N m : Nat) (kr : Nat → AxS → Option AxS) (w0 : Int32) (S : AxS) : Option AxS := ax_is S m 10 <| axBV (kr m S) fun T46 => q_R4 N m w0 T46
def q_R2 (N m : Nat) (kr : Nat → AxS → Option AxS) (w0 : Int32) (S : AxS) : Option AxS := ax_is S m 10 <| axBV (F_X10_sign N m 44 S) fun T43 => q_R3 N m kr w0 T43
def q_R1 (N m : Nat) (kr : Nat → AxS → Option AxS) (w0 : Int32) (S : AxS) : Option AxS := ax_is S m 10 <| axBV (kr m S) fun T40 => q_R2 N m kr w0 T40
theorem qm_two {w0 : Int32} (hN : 2000 < N) (hm : LMo Z m) (hn : n ≤ 150) (ho : op ≤ 6) (hk : op < 6 → MKr Z m t n pl (op + 1) (kr m) krp) (hkd : op < 6 → MDd Z m (kr m)) (hkf : op < 6 → ∀ p, p ≤ n → q_ft D p n (krp p)) (hw : w0 ≠ -1) (h : MT g m t n s 0 pl) (hL : MLn g m acc) (ha : acc.length ≤ s) (h8 : g m 8 = Int32.ofNat op) (hr : NFr m g0 g) : QMn Z m t n pl op acc g0 (F_X10_one_58 N kr m w0 (axM Z g)) (if 6 ≤ op then .inl (3, Int32.ofNat s) else q_two krp t n (q_wrl t n s) w0) := by
  have h0 := hm.1
  have hpn := h.2.2.2.2.2.2
  have O := qm_opens (N := N) hm ho h h8
  unfold F_X10_one_58
  rw [if_neg hw, m_is h0]
  by_cases c6 : 6 ≤ op
  · obtain ⟨g1, e1, x1, fr1⟩ := O.1 c6
    rw [if_pos c6, e1, axB_s, if_pos rfl]
    exact ⟨g1, s, rfl, x1, hr.tr fr1.nf⟩
  have hk := hk (by omega)
  have hkd := hkd (by omega)
  have hkf := hkf (by omega)
  have x1 : MT (ax2 g m 8 (Int32.ofNat (op + 1))) m t n s 0 pl := h.j (by omega)
  obtain ⟨g2, e2, x2, fr2⟩ := qm_skip hN hm x1
  have L2 : MLn g2 m acc := fr2.ln ⟨by rw [ax2_j _ _ _ _ _ (by omega)]; exact hL.1, fun k q e => by rw [ax2_n _ _ _ _ (by omega)]; exact hL.2 k q e⟩
  have h82 : g2 m 8 = Int32.ofNat (op + 1) := fr2.f8 (ax2_k _ _ _ _)
  have r2 : NFr m g0 g2 := hr.tr (NFr.tr ⟨fun x a _ => ax2_n _ _ _ _ a, fun j _ _ _ d _ => ax2_j _ _ _ _ _ d⟩ fr2.nf)
  rw [if_neg c6, O.2 (by omega), axB_s, if_neg (show ¬ (1 : Int32) = 0 by decide), m_is h0, e2, axBV_s, m_is h0]
  show QMn Z m t n pl op acc g0 (axBV (F_X10_sign N m 91 (axM Z g2)) fun T37 => q_R1 N m kr w0 T37) _
  have dd : ∀ (g : Nat → Nat → Int32) (q : Nat) (z : Int32 × Int32), MT g m t n q z.1 z.2 → z.1 ≠ 0 → NFr m g0 g → QMn Z m t n pl op acc g0 (q_R5 N m w0 (axM Z g)) (.inl z) ∧ QMn Z m t n pl op acc g0 (q_R4 N m w0 (axM Z g)) (.inl z) ∧ QMn Z m t n pl op acc g0 (q_R3 N m kr w0 (axM Z g)) (.inl z) ∧ QMn Z m t n pl op acc g0 (q_R2 N m kr w0 (axM Z g)) (.inl z) ∧ QMn Z m t n pl op acc g0 (q_R1 N m kr w0 (axM Z g)) (.inl z) := by
    intro g q z hg hz hr
    have h5 : g m 5 ≠ 0 := by rw [hg.2.2.1]; exact hz
    have R5 : QMn Z m t n pl op acc g0 (q_R5 N m w0 (axM Z g)) (.inl z) := by
      unfold q_R5
      rw [m_is h0, qm_noted h0 _ _ h5, axBV_s, m_gi h0, m_pi h0]
      exact ⟨_, q, rfl, hg.j (by omega), hr.tr ⟨fun x a _ => ax2_n _ _ _ _ a, fun j _ _ _ d _ => ax2_j _ _ _ _ _ d⟩⟩
    have R4 : QMn Z m t n pl op acc g0 (q_R4 N m w0 (axM Z g)) (.inl z) := by
      unfold q_R4
      rw [m_is h0, qm_signd h0 _ h5, axBV_s]
      exact R5
    have R3 : QMn Z m t n pl op acc g0 (q_R3 N m kr w0 (axM Z g)) (.inl z) := by
      unfold q_R3
      rw [m_is h0, hkd g h5, axBV_s]
      exact R4
    have R2 : QMn Z m t n pl op acc g0 (q_R2 N m kr w0 (axM Z g)) (.inl z) := by
      unfold q_R2
      rw [m_is h0, qm_signd h0 _ h5, axBV_s]
      exact R3
    refine ⟨R5, R4, R3, R2, ?_⟩
    unfold q_R1
    rw [m_is h0, hkd g h5, axBV_s]
    exact R2
  have hwl := (q_skp_b q_isL t hpn).1
  change s ≤ q_wrl t n s at hwl
  have hwn := (q_skp_b q_isL t hpn).2.1
  change q_wrl t n s ≤ n at hwn
  unfold q_two
  have T1 := qm_tkn hN hm x2 (c := 91) (by decide)
  rcases e3 : q_tk t n 91 (q_wrl t n s) with z | p1
  · obtain ⟨g3, q, y3, x3, fr3⟩ := T1.1 z e3
    rw [q_bd_l rfl, y3, axBV_s]
    exact (dd _ _ z x3 ((q_tk_f (by decide) hwn).1 z e3) (r2.tr fr3.nf)).2.2.2.2
  obtain ⟨g3, y3, x3, fr3⟩ := T1.2 p1 e3
  obtain ⟨u1, u2⟩ := (q_tk_f (by decide) hwn).2 p1 e3
  rw [q_bd_r rfl, y3, axBV_s]
  unfold q_R1
  rw [m_is h0]
  have K1 := hk p1 acc g0 g3 x3 (fr3.ln L2) (by omega) (fr3.f8 h82) (r2.tr fr3.nf)
  rcases e4 : krp p1 with z | a
  · rw [e4] at K1
    obtain ⟨g4, q, y4, x4, r4⟩ := K1
    rw [q_bd_l rfl, y4, axBV_s]
    exact (dd _ _ z x4 ((hkf p1 u2).1 z e4) r4).2.2.2.1
  rw [e4] at K1
  obtain ⟨g4, y4, x4, L4, h84, r4⟩ := K1
  obtain ⟨a1, a2, a3, -⟩ := (hkf p1 u2).2 a e4
  rw [q_bd_r rfl, y4, axBV_s]
  unfold q_R2
  rw [m_is h0]
  have T2 := qm_tkn hN hm x4 (c := 44) (by decide)
  rcases e5 : q_tk t n 44 a.2 with z | p2
  · obtain ⟨g5, q, y5, x5, fr5⟩ := T2.1 z e5
    rw [q_bd_l rfl, y5, axBV_s]
    exact (dd _ _ z x5 ((q_tk_f (by decide) a3).1 z e5) (r4.tr fr5.nf)).2.2.1
  obtain ⟨g5, y5, x5, fr5⟩ := T2.2 p2 e5
  obtain ⟨b1, b2⟩ := (q_tk_f (by decide) a3).2 p2 e5
  rw [q_bd_r rfl, y5, axBV_s]
  unfold q_R3
  rw [m_is h0]
  have K2 := hk p2 (acc ++ a.1) g0 g5 x5 (fr5.ln L4) (by rw [List.length_append]; omega) (fr5.f8 h84) (r4.tr fr5.nf)
  rcases e6 : krp p2 with z | c
  · rw [e6] at K2
    obtain ⟨g6, q, y6, x6, r6⟩ := K2
    rw [q_bd_l rfl, y6, axBV_s]
    exact (dd _ _ z x6 ((hkf p2 b2).1 z e6) r6).2.1
  rw [e6] at K2
  obtain ⟨g6, y6, x6, L6, h86, r6⟩ := K2
  obtain ⟨c1, c2, c3, -⟩ := (hkf p2 b2).2 c e6
  rw [q_bd_r rfl, y6, axBV_s]
  unfold q_R4
  rw [m_is h0]
  have T3 := qm_tkn hN hm x6 (c := 93) (by decide)
  rcases e7 : q_tk t n 93 c.2 with z | p3
  · obtain ⟨g7, q, y7, x7, fr7⟩ := T3.1 z e7
    rw [q_bd_l rfl, y7, axBV_s]
    exact (dd _ _ z x7 ((q_tk_f (by decide) c3).1 z e7) (r6.tr fr7.nf)).1
  obtain ⟨g7, y7, x7, fr7⟩ := T3.2 p3 e7
  obtain ⟨d1, d2⟩ := (q_tk_f (by decide) c3).2 p3 e7
  rw [q_bd_r rfl, y7, axBV_s]
  unfold q_R5
  obtain ⟨g8, y8, L8, t8, f88, r8⟩ := qm_note (N := N) (t := t) (n := n) hm x7.2.2.1 (fr7.ln L6) (by rw [List.length_append, List.length_append]; omega) w0 0
  rw [m_is h0, y8, axBV_s, m_gi h0, f88, fr7.f8 h86, m_pi h0, qi_m2 (by omega), Nat.add_sub_cancel]
  refine ⟨_, rfl, (t8 x7).j (by omega), ⟨?_, fun k q e => ?_⟩, ax2_k _ _ _ _, (r6.tr fr7.nf).tr (r8.tr ⟨fun x a _ => ax2_n _ _ _ _ a, fun j _ _ _ d _ => ax2_j _ _ _ _ _ d⟩)⟩
  · rw [List.append_assoc, List.append_assoc] at L8
    rw [ax2_j _ _ _ _ _ (by omega)]
    exact L8.1
  · rw [List.append_assoc, List.append_assoc] at L8
    rw [ax2_n _ _ _ _ (by omega)]
    exact L8.2 k q e
theorem q_kv_n (hs : s ≤ n) (hb : ¬ q_isL (q_B t n s) = true) : q_kv t s (q_wrl t n s) = -1 := (q_kv_b t s (q_wrl t n s)).elim id fun ⟨⟨i, _, i2, i3⟩, _, _⟩ => absurd i3 (q_isw_0 hs (q_V_len i i2) hb)
theorem q_DL {x : Int32} (h : q_isD x = true) : ¬ q_isL x = true ∧ x ≠ 40 := by
  obtain ⟨y, y1, y2, rfl⟩ := q_isD_n h
  refine ⟨fun q => ?_, fun q => ?_⟩
  · obtain ⟨z, z1, z2, e⟩ := q_isL_n q
    rw [qi_eq (by omega) (by omega)] at e
    omega
  · rw [show (40 : Int32) = Int32.ofNat 40 from rfl, qi_eq (by omega) (by omega)] at q
    omega
theorem qm_unit (hN : 2000 < N) (hm : LMo Z m) (hn : n ≤ 150) (ho : op ≤ 6) (hk : op < 6 → MKr Z m t n pl (op + 1) (kr m) krp) (hkd : op < 6 → MDd Z m (kr m)) (hkf : op < 6 → ∀ p, p ≤ n → q_ft D p n (krp p)) : MKr Z m t n pl op (F_X10_one N kr m) (fun p => q_un krp t n op p) := by
  intro p acc g0 g h hL ha h8 hr
  have h0 := hm.1
  have hpn := h.2.2.2.2.2.2
  obtain ⟨hb1, hb2, -⟩ := q_skp_b q_isB t hpn
  change p ≤ q_bl t n p at hb1
  change q_bl t n p ≤ n at hb2
  have hss : q_bl t n (q_bl t n p) = q_bl t n p := q_skp_i q_isB t hpn
  obtain ⟨g1, e1, x1, fr1⟩ := qm_blanks hN hm h
  obtain ⟨g2, e2, x2, fr2⟩ := qm_isWord (a1 := 12) (a2 := 5) (a3 := 1) (a4 := 19) (a5 := 20) (a6 := 0) (a7 := 0) (cs := q_V 0) hN hm x1 (fun _ => rfl) (q_V_let 0 (by omega))
  obtain ⟨g3, e3, x3, fr3⟩ := qm_isWord (a1 := 13) (a2 := 15) (a3 := 19) (a4 := 20) (a5 := 0) (a6 := 0) (a7 := 0) (cs := q_V 1) hN hm x2 (fun _ => rfl) (q_V_let 1 (by omega))
  rw [hss, hss] at x3 e3
  rw [hss] at x2 e2
  have hf := q_un_f (t := t) (op := op) (kr := krp) hkf hpn
  unfold F_X10_one
  rw [m_gi h0, h.2.2.1, if_pos rfl, m_is h0, e1, axBV_s, m_is h0, e2, axB_s]
  show QMn Z m t n pl op acc g0 _ (q_un krp t n op p)
  have f2 := fr1.tr fr2
  have f3 := f2.tr fr3
  unfold q_un at hf ⊢
  by_cases c1 : q_isD (q_B t n (q_bl t n p)) = true
  · obtain ⟨nl, n40⟩ := q_DL c1
    obtain ⟨g4, e4, x4, -, fr4⟩ := qm_known hN hm x3 hss
    have f4 := f3.tr fr4
    have kv := q_kv_n (t := t) hb2 nl
    rw [if_pos c1] at hf ⊢
    rw [if_neg (q_isw_0 hb2 (q_V_len 0 (by omega)) nl), if_pos rfl, m_is h0, e3, axB_s, if_neg (q_isw_0 hb2 (q_V_len 1 (by omega)) nl), if_pos rfl]
    unfold F_X10_one_58
    rw [if_pos rfl, m_gi h0, x3.2.1, m_is h0, qm_byteAt hm x3 _ (by omega), axB_s, if_neg n40, m_is h0, e4, axB_s, kv, if_pos rfl, m_is h0]
    have en : q_nok t n (q_bl t n p) 0 999 = q_nok t n p 0 999 := by
      unfold q_nok
      rw [hss]
    have ef : q_nfk t n (q_bl t n p) = q_nfk t n p := by
      unfold q_nfk
      rw [hss]
    have r := qm_number hN hm (x4 kv) 0 999
    rw [en, ef, hss] at r
    by_cases c2 : q_nok t n p 0 999
    · rw [if_pos (q_nb_t c2)] at hf ⊢
      obtain ⟨g5, e5, x5, fr5⟩ := r.1 ⟨rfl, c2⟩
      have f5 := f4.tr fr5
      obtain ⟨z1, z2, z3, -⟩ := hf.2 _ rfl
      change 1 + p ≤ q_dgt t n (q_bl t n p) at z1
      change q_dgt t n (q_bl t n p) ≤ n at z3
      obtain ⟨g6, e6, L6, t6, f86, r6⟩ := qm_note (N := N) (t := t) (n := n) hm x5.2.2.1 (f5.ln hL) (by omega) 0 (Int32.ofNat (q_num t n (q_bl t n p)))
      rw [e5, axB_s, m_is h0, e6, axBV_s]
      exact ⟨g6, rfl, t6 x5, L6, by rw [f86]; exact f5.f8 h8, (hr.tr f5.nf).tr r6⟩
    · rw [if_neg (q_nb_f c2)]
      obtain ⟨g5, q, e5, x5, fr5⟩ := r.2 fun z => c2 z.2
      rw [if_pos rfl, if_pos rfl] at x5
      rw [e5, axB_s, m_is h0, qm_noted h0 _ _ (by rw [x5.2.2.1]; exact q_nfk_z _ _ _), axBV_s]
      exact ⟨g5, q, rfl, x5, (hr.tr f4.nf).tr fr5.nf⟩
  rw [if_neg c1] at hf ⊢
  by_cases c2 : q_B t n (q_bl t n p) = 40
  · have nl : ¬ q_isL (q_B t n (q_bl t n p)) = true := by
      rw [c2]
      decide
    rw [if_pos c2] at hf ⊢
    obtain ⟨hlt, -⟩ := q_B_lt (by decide) c2
    rw [if_neg (q_isw_0 hb2 (q_V_len 0 (by omega)) nl), if_pos rfl, m_is h0, e3, axB_s, if_neg (q_isw_0 hb2 (q_V_len 1 (by omega)) nl), if_pos rfl]
    unfold F_X10_one_58
    rw [if_pos rfl, m_gi h0, x3.2.1, m_is h0, qm_byteAt hm x3 _ (by omega), axB_s, if_pos c2, m_is h0]
    have O := qm_opens (N := N) hm ho x3 (f3.f8 h8)
    by_cases c6 : 6 ≤ op
    · obtain ⟨g4, e4, x4, fr4⟩ := O.1 c6
      rw [if_pos c6, e4, axB_s, if_pos rfl]
      exact ⟨g4, _, rfl, x4, (hr.tr f3.nf).tr fr4.nf⟩
    rw [if_neg c6, O.2 (by omega), axB_s, if_neg (show ¬ (1 : Int32) = 0 by decide), m_gi h0, ax2_j _ _ _ _ _ (show (4 : Nat) ≠ 8 by omega), x3.2.1, m_pi h0, qi_s, m_is h0]
    have x4 : MT (ax2 (ax2 g3 m 8 (Int32.ofNat (op + 1))) m 4 (Int32.ofNat (q_bl t n p + 1))) m t n (q_bl t n p + 1) 0 pl := (show MT (ax2 g3 m 8 (Int32.ofNat (op + 1))) m t n (q_bl t n p) 0 pl from x3.j (by omega)).at (by omega)
    have L3 := f3.ln hL
    have L4 : MLn (ax2 (ax2 g3 m 8 (Int32.ofNat (op + 1))) m 4 (Int32.ofNat (q_bl t n p + 1))) m acc := ⟨by rw [ax2_j _ _ _ _ _ (by omega), ax2_j _ _ _ _ _ (by omega)]; exact L3.1, fun k q e => by rw [ax2_n _ _ _ _ (by omega), ax2_n _ _ _ _ (by omega)]; exact L3.2 k q e⟩
    have n4 : NFr m g0 (ax2 (ax2 g3 m 8 (Int32.ofNat (op + 1))) m 4 (Int32.ofNat (q_bl t n p + 1))) := (hr.tr f3.nf).tr ⟨fun x a _ => by rw [ax2_n _ _ _ _ a, ax2_n _ _ _ _ a], fun j a _ _ d _ => by rw [ax2_j _ _ _ _ _ a, ax2_j _ _ _ _ _ d]⟩
    have K1 := hk (by omega) (q_bl t n p + 1) acc g0 _ x4 L4 (by omega) (by rw [ax2_j _ _ _ _ _ (by omega), ax2_k]) n4
    unfold q_par
    rcases e5 : krp (q_bl t n p + 1) with z | a
    · rw [e5] at K1
      obtain ⟨g5, q, y5, x5, r5⟩ := K1
      have h5 : g5 m 5 ≠ 0 := by
        rw [x5.2.2.1]
        exact (hkf (by omega) _ (by omega)).1 z e5
      rw [q_bd_l rfl, y5, axBV_s, m_is h0, qm_signd h0 _ h5, axBV_s, m_gi h0, m_pi h0]
      exact ⟨_, q, rfl, x5.j (by omega), r5.tr ⟨fun x a _ => ax2_n _ _ _ _ a, fun j _ _ _ d _ => ax2_j _ _ _ _ _ d⟩⟩
    rw [e5] at K1
    obtain ⟨g5, y5, x5, L5, h85, r5⟩ := K1
    rw [q_bd_r rfl, y5, axBV_s, m_is h0]
    have T3 := qm_tkn hN hm x5 (c := 41) (by decide)
    rcases e6 : q_tk t n 41 a.2 with z | p3
    · obtain ⟨g6, q, y6, x6, fr6⟩ := T3.1 z e6
      rw [q_bd_l rfl, y6, axBV_s, m_gi h0, m_pi h0]
      exact ⟨_, q, rfl, x6.j (by omega), (r5.tr fr6.nf).tr ⟨fun x a _ => ax2_n _ _ _ _ a, fun j _ _ _ d _ => ax2_j _ _ _ _ _ d⟩⟩
    · obtain ⟨g6, y6, x6, fr6⟩ := T3.2 p3 e6
      have L6 := fr6.ln L5
      rw [q_bd_r rfl, y6, axBV_s, m_gi h0, fr6.f8 h85, m_pi h0, qi_m2 (by omega), Nat.add_sub_cancel]
      exact ⟨_, rfl, x6.j (by omega), ⟨by rw [ax2_j _ _ _ _ _ (by omega)]; exact L6.1, fun k q e => by rw [ax2_n _ _ _ _ (by omega)]; exact L6.2 k q e⟩, ax2_k _ _ _ _, (r5.tr fr6.nf).tr ⟨fun x a _ => ax2_n _ _ _ _ a, fun j _ _ _ d _ => ax2_j _ _ _ _ _ d⟩⟩
  rw [if_neg c2] at hf ⊢
  by_cases c3 : q_isw t (q_bl t n p) (q_wrl t n (q_bl t n p)) (q_V 0) = true
  · simp only [if_pos c3]
    rw [if_neg (show ¬ (1 : Int32) = 0 by decide)]
    exact qm_two hN hm hn ho hk hkd hkf (by decide) x2 (f2.ln hL) (by omega) (f2.f8 h8) (hr.tr f2.nf)
  simp only [if_neg c3] at hf ⊢
  rw [if_pos trivial, m_is h0, e3, axB_s]
  by_cases c4 : q_isw t (q_bl t n p) (q_wrl t n (q_bl t n p)) (q_V 1) = true
  · simp only [if_pos c4]
    rw [if_neg (show ¬ (1 : Int32) = 0 by decide)]
    exact qm_two hN hm hn ho hk hkd hkf (by decide) x3 (f3.ln hL) (by omega) (f3.f8 h8) (hr.tr f3.nf)
  simp only [if_neg c4] at hf ⊢
  rw [if_pos trivial]
  obtain ⟨g4, e4, x4, x4', fr4⟩ := qm_known hN hm x3 hss
  have f4 := f3.tr fr4
  unfold F_X10_one_58
  rw [if_pos rfl, m_gi h0, x3.2.1, m_is h0, qm_byteAt hm x3 _ (by omega), axB_s, if_neg c2, m_is h0, e4, axB_s]
  by_cases c5 : q_kv t (q_bl t n p) (q_wrl t n (q_bl t n p)) = -1
  · have r := qm_number hN hm (x4 c5) 0 999
    have en : ¬ q_nok t n (q_bl t n p) 0 999 := fun q => c1 (by rw [← hss]; exact q.1)
    have ef : q_nfk t n (q_bl t n p) = 1 := by
      unfold q_nfk
      rw [hss, if_neg c1]
    obtain ⟨g5, q, e5, x5, fr5⟩ := r.2 fun z => en z.2
    rw [if_pos rfl, if_pos rfl, ef, hss] at x5
    rw [if_pos c5, if_pos c5, m_is h0, e5, axB_s, m_is h0, qm_noted h0 _ _ (by rw [x5.2.2.1]; decide), axBV_s]
    exact ⟨g5, q, rfl, x5, (hr.tr f4.nf).tr fr5.nf⟩
  · rw [if_neg c5] at hf ⊢
    obtain ⟨z1, z2, z3, -⟩ := hf.2 _ rfl
    change 1 + p ≤ q_wrl t n (q_bl t n p) at z1
    change q_wrl t n (q_bl t n p) ≤ n at z3
    obtain ⟨g6, e6, L6, t6, f86, r6⟩ := qm_note (N := N) (t := t) (n := n) hm (x4' c5).2.2.1 (f4.ln hL) (by omega) 1 (q_kv t (q_bl t n p) (q_wrl t n (q_bl t n p)))
    rw [if_neg c5, m_is h0, e6, axBV_s]
    exact ⟨g6, rfl, t6 (x4' c5), L6, by rw [f86]; exact f4.f8 h8, (hr.tr f4.nf).tr r6⟩
theorem qm_unitd (h0 : axL Z m = some (0, 10)) : MDd Z m (F_X10_one N kr m) := fun g h => by
  unfold F_X10_one
  rw [m_gi h0, if_neg h]
theorem qm_prod_d (h0 : axL Z m = some (0, 10)) {fu : Nat} (hfu : 0 < fu) : MDd Z m (F_X10_product_4 N kr fu m) := fun g h => by
  obtain ⟨fu, rfl⟩ : ∃ q, fu = q + 1 := ⟨fu - 1, by omega⟩
  show F_X10_product_4b N kr (F_X10_product_4 N kr fu) m (axM Z g) = _
  unfold F_X10_product_4b
  rw [m_gi h0, if_neg h]
theorem qm_prodd (hN : 2000 < N) (h0 : axL Z m = some (0, 10)) (hu : MDd Z m (F_X10_one N kr m)) : MDd Z m (F_X10_product N kr m) := fun g h => by
  unfold F_X10_product
  rw [m_is h0, hu g h, axBV_s]
  exact qm_prod_d h0 (by omega) g h
theorem qm_prod_l (hN : 2000 < N) (hm : LMo Z m) (hn : n ≤ 150) {un : Nat → QO2} (hk : MKr Z m t n pl op (F_X10_one N kr m) un) (hkf : ∀ p, p ≤ n → q_ft D p n (un p)) : ∀ (k p fu : Nat) (acc : QL) (g : Nat → Nat → Int32), n < k + p → k + 1 < fu → MT g m t n p 0 pl → MLn g m acc → acc.length ≤ p → g m 8 = Int32.ofNat op → NFr m g0 g → QMn Z m t n pl op acc g0 (F_X10_product_4 N kr fu m (axM Z g)) (q_lp q_sP un t n k p) := by
  have h0 := hm.1
  intro k
  induction k with
  | zero =>
    intro p fu acc g hi hfu h hL ha h8 hr
    have := h.2.2.2.2.2.2
    omega
  | succ k ih =>
    intro p fu acc g hi hfu h hL ha h8 hr
    obtain ⟨fu, rfl⟩ : ∃ q, fu = q + 1 := ⟨fu - 1, by omega⟩
    have hpn := h.2.2.2.2.2.2
    obtain ⟨hb1, hb2, -⟩ := q_skp_b q_isB t hpn
    change p ≤ q_bl t n p at hb1
    change q_bl t n p ≤ n at hb2
    have hss : q_bl t n (q_bl t n p) = q_bl t n p := q_skp_i q_isB t hpn
    show QMn Z m t n pl op acc g0 (F_X10_product_4b N kr (F_X10_product_4 N kr fu) m (axM Z g)) _
    have go : ∀ (h9 : Int32) (g1 : Nat → Nat → Int32), q_sP (q_B t n (q_bl t n p)) = h9 → h9 ≠ -1 → q_B t n (q_bl t n p) ≠ -1 → MT g1 m t n (q_bl t n p + 1) 0 pl → MFr g g1 m → QMn Z m t n pl op acc g0 (F_X10_product_52 N kr (F_X10_product_4 N kr fu) m h9 (axM Z g1)) (q_lp q_sP un t n (k + 1) p) := by
      intro h9 g1 hs hne hbn x1 fr1
      have hlt : q_bl t n p < n := by
        refine Nat.lt_of_not_le fun q => hbn ?_
        exact if_neg (by omega)
      have K1 := hk (q_bl t n p + 1) acc g0 g1 x1 (fr1.ln hL) (by omega) (fr1.f8 h8) (hr.tr fr1.nf)
      unfold F_X10_product_52 q_lp
      rw [hs, if_neg hne, if_neg hne, m_is h0]
      rcases e3 : un (q_bl t n p + 1) with z | a
      · rw [e3] at K1
        obtain ⟨g3, q, y3, x3, r3⟩ := K1
        have h5 : g3 m 5 ≠ 0 := by
          rw [x3.2.2.1]
          exact (hkf _ (by omega)).1 z e3
        rw [q_bd_l rfl, y3, axBV_s, m_is h0, qm_noted h0 _ _ h5, axBV_s, qm_prod_d h0 (by omega) g3 h5]
        exact ⟨g3, q, rfl, x3, r3⟩
      rw [e3] at K1
      obtain ⟨g3, y3, x3, L3, h83, r3⟩ := K1
      obtain ⟨a1, a2, a3, -⟩ := (hkf _ (by omega)).2 a e3
      obtain ⟨g4, y4, L4, t4, f84, r4⟩ := qm_note (N := N) (t := t) (n := n) hm x3.2.2.1 L3 (by rw [List.length_append]; omega) h9 0
      rw [q_bd_r rfl, y3, axBV_s, m_is h0, y4, axBV_s]
      have I := ih a.2 fu (acc ++ a.1 ++ [(h9, 0)]) g4 (by omega) (by omega) (t4 x3) L4 (by rw [List.length_append, List.length_append]; show acc.length + a.1.length + 1 ≤ a.2; omega) (by rw [f84, h83]) (r3.tr r4)
      rcases e5 : q_lp q_sP un t n k a.2 with z | y
      · rw [e5] at I
        rw [q_bd_l rfl]
        exact I
      · rw [e5] at I
        rw [q_bd_r rfl]
        obtain ⟨g5, y5, x5, L5, h85, r5⟩ := I
        refine ⟨g5, y5, x5, ?_, h85, r5⟩
        rw [List.append_assoc, List.append_assoc] at L5
        exact L5
    unfold F_X10_product_4b
    rw [m_gi h0, h.2.2.1, if_pos rfl]
    obtain ⟨k42, e42, x42, fr42⟩ := qm_takesSign hN hm h (c := 42) (by decide)
    replace fr42 := (MFr.rf _ _ : MFr g g m).tr fr42
    rw [m_is h0, e42, axB_s]
    by_cases c42 : q_B t n (q_bl t n p) = 42
    · rw [if_pos c42] at x42
      rw [if_pos c42, if_neg (show ¬ (1 : Int32) = 0 by decide)]
      exact go 4 k42 (by unfold q_sP; rw [if_pos c42]) (by decide) (by rw [c42]; decide) x42 fr42
    rw [if_neg c42] at x42
    rw [if_neg c42, if_pos rfl]
    obtain ⟨k47, e47, x47, fr47⟩ := qm_takesSign hN hm x42 (c := 47) (by decide)
    rw [hss] at e47 x47
    replace fr47 := (fr42 : MFr g k42 m).tr fr47
    rw [m_is h0, e47, axB_s]
    by_cases c47 : q_B t n (q_bl t n p) = 47
    · rw [if_pos c47] at x47
      rw [if_pos c47, if_neg (show ¬ (1 : Int32) = 0 by decide)]
      exact go 5 k47 (by unfold q_sP; rw [if_neg c42, if_pos c47]) (by decide) (by rw [c47]; decide) x47 fr47
    rw [if_neg c47] at x47
    rw [if_neg c47, if_pos rfl]
    obtain ⟨k37, e37, x37, fr37⟩ := qm_takesSign hN hm x47 (c := 37) (by decide)
    rw [hss] at e37 x37
    replace fr37 := (fr47 : MFr g k47 m).tr fr37
    rw [m_is h0, e37, axB_s]
    by_cases c37 : q_B t n (q_bl t n p) = 37
    · rw [if_pos c37] at x37
      rw [if_pos c37, if_neg (show ¬ (1 : Int32) = 0 by decide)]
      exact go 6 k37 (by unfold q_sP; rw [if_neg c42, if_neg c47, if_pos c37]) (by decide) (by rw [c37]; decide) x37 fr37
    rw [if_neg c37] at x37
    rw [if_neg c37, if_pos rfl]
    unfold F_X10_product_52 q_lp
    rw [if_pos rfl, if_pos (show q_sP (q_B t n (q_bl t n p)) = -1 by unfold q_sP; rw [if_neg c42, if_neg c47, if_neg c37])]
    exact ⟨k37, rfl, x37, by rw [List.append_nil]; exact fr37.ln hL, fr37.f8 h8, hr.tr fr37.nf⟩
theorem qm_prod (hN : 2000 < N) (hm : LMo Z m) (hn : n ≤ 150) {un : Nat → QO2} (hk : MKr Z m t n pl op (F_X10_one N kr m) un) (hkf : ∀ p, p ≤ n → q_ft D p n (un p)) : MKr Z m t n pl op (F_X10_product N kr m) (fun p => q_ch q_sP un t n p) := by
  intro p acc g0 g h hL ha h8 hr
  have h0 := hm.1
  have hpn := h.2.2.2.2.2.2
  have K1 := hk p acc g0 g h hL ha h8 hr
  show QMn Z m t n pl op acc g0 _ (q_ch q_sP un t n p)
  unfold F_X10_product q_ch
  rw [m_is h0]
  rcases e1 : un p with z | a
  · rw [e1] at K1
    obtain ⟨g1, q, y1, x1, r1⟩ := K1
    have h5 : g1 m 5 ≠ 0 := by
      rw [x1.2.2.1]
      exact (hkf p hpn).1 z e1
    rw [q_bd_l rfl, y1, axBV_s, qm_prod_d h0 (by omega) g1 h5]
    exact ⟨g1, q, rfl, x1, r1⟩
  rw [e1] at K1
  obtain ⟨g1, y1, x1, L1, h81, r1⟩ := K1
  obtain ⟨a1, a2, a3, -⟩ := (hkf p hpn).2 a e1
  rw [q_bd_r rfl, y1, axBV_s]
  have I := qm_prod_l (N := N) (kr := kr) (g0 := g0) hN hm hn hk hkf 150 a.2 N (acc ++ a.1) g1 (by omega) (by omega) x1 L1 (by rw [List.length_append]; omega) h81 r1
  rcases e5 : q_lp q_sP un t n 150 a.2 with z | y
  · rw [e5] at I
    rw [q_bd_l rfl]
    exact I
  · rw [e5] at I
    rw [q_bd_r rfl]
    obtain ⟨g5, y5, x5, L5, h85, r5⟩ := I
    refine ⟨g5, y5, x5, ?_, h85, r5⟩
    rw [List.append_assoc] at L5
    exact L5
theorem qm_sum_d (h0 : axL Z m = some (0, 10)) {fu : Nat} (hfu : 0 < fu) : MDd Z m (F_X10_sum_4 N kr fu m) := fun g h => by
  obtain ⟨fu, rfl⟩ : ∃ q, fu = q + 1 := ⟨fu - 1, by omega⟩
  show F_X10_sum_4b N kr (F_X10_sum_4 N kr fu) m (axM Z g) = _
  unfold F_X10_sum_4b
  rw [m_gi h0, if_neg h]
theorem qm_sumd (hN : 2000 < N) (h0 : axL Z m = some (0, 10)) (hu : MDd Z m (F_X10_product N kr m)) : MDd Z m (F_X10_sum N kr m) := fun g h => by
  unfold F_X10_sum
  rw [m_is h0, hu g h, axBV_s]
  exact qm_sum_d h0 (by omega) g h
theorem qm_sum_l (hN : 2000 < N) (hm : LMo Z m) (hn : n ≤ 150) {un : Nat → QO2} (hk : MKr Z m t n pl op (F_X10_product N kr m) un) (hkf : ∀ p, p ≤ n → q_ft D p n (un p)) : ∀ (k p fu : Nat) (acc : QL) (g : Nat → Nat → Int32), n < k + p → k + 1 < fu → MT g m t n p 0 pl → MLn g m acc → acc.length ≤ p → g m 8 = Int32.ofNat op → NFr m g0 g → QMn Z m t n pl op acc g0 (F_X10_sum_4 N kr fu m (axM Z g)) (q_lp q_sS un t n k p) := by
  have h0 := hm.1
  intro k
  induction k with
  | zero =>
    intro p fu acc g hi hfu h hL ha h8 hr
    have := h.2.2.2.2.2.2
    omega
  | succ k ih =>
    intro p fu acc g hi hfu h hL ha h8 hr
    obtain ⟨fu, rfl⟩ : ∃ q, fu = q + 1 := ⟨fu - 1, by omega⟩
    have hpn := h.2.2.2.2.2.2
    obtain ⟨hb1, hb2, -⟩ := q_skp_b q_isB t hpn
    change p ≤ q_bl t n p at hb1
    change q_bl t n p ≤ n at hb2
    have hss : q_bl t n (q_bl t n p) = q_bl t n p := q_skp_i q_isB t hpn
    show QMn Z m t n pl op acc g0 (F_X10_sum_4b N kr (F_X10_sum_4 N kr fu) m (axM Z g)) _
    have go : ∀ (h9 : Int32) (g1 : Nat → Nat → Int32), q_sS (q_B t n (q_bl t n p)) = h9 → h9 ≠ -1 → q_B t n (q_bl t n p) ≠ -1 → MT g1 m t n (q_bl t n p + 1) 0 pl → MFr g g1 m → QMn Z m t n pl op acc g0 (F_X10_sum_38 N kr (F_X10_sum_4 N kr fu) m h9 (axM Z g1)) (q_lp q_sS un t n (k + 1) p) := by
      intro h9 g1 hs hne hbn x1 fr1
      have hlt : q_bl t n p < n := by
        refine Nat.lt_of_not_le fun q => hbn ?_
        exact if_neg (by omega)
      have K1 := hk (q_bl t n p + 1) acc g0 g1 x1 (fr1.ln hL) (by omega) (fr1.f8 h8) (hr.tr fr1.nf)
      unfold F_X10_sum_38 q_lp
      rw [hs, if_neg hne, if_neg hne, m_is h0]
      rcases e3 : un (q_bl t n p + 1) with z | a
      · rw [e3] at K1
        obtain ⟨g3, q, y3, x3, r3⟩ := K1
        have h5 : g3 m 5 ≠ 0 := by
          rw [x3.2.2.1]
          exact (hkf _ (by omega)).1 z e3
        rw [q_bd_l rfl, y3, axBV_s, m_is h0, qm_noted h0 _ _ h5, axBV_s, qm_sum_d h0 (by omega) g3 h5]
        exact ⟨g3, q, rfl, x3, r3⟩
      rw [e3] at K1
      obtain ⟨g3, y3, x3, L3, h83, r3⟩ := K1
      obtain ⟨a1, a2, a3, -⟩ := (hkf _ (by omega)).2 a e3
      obtain ⟨g4, y4, L4, t4, f84, r4⟩ := qm_note (N := N) (t := t) (n := n) hm x3.2.2.1 L3 (by rw [List.length_append]; omega) h9 0
      rw [q_bd_r rfl, y3, axBV_s, m_is h0, y4, axBV_s]
      have I := ih a.2 fu (acc ++ a.1 ++ [(h9, 0)]) g4 (by omega) (by omega) (t4 x3) L4 (by rw [List.length_append, List.length_append]; show acc.length + a.1.length + 1 ≤ a.2; omega) (by rw [f84, h83]) (r3.tr r4)
      rcases e5 : q_lp q_sS un t n k a.2 with z | y
      · rw [e5] at I
        rw [q_bd_l rfl]
        exact I
      · rw [e5] at I
        rw [q_bd_r rfl]
        obtain ⟨g5, y5, x5, L5, h85, r5⟩ := I
        refine ⟨g5, y5, x5, ?_, h85, r5⟩
        rw [List.append_assoc, List.append_assoc] at L5
        exact L5
    unfold F_X10_sum_4b
    rw [m_gi h0, h.2.2.1, if_pos rfl]
    obtain ⟨k43, e43, x43, fr43⟩ := qm_takesSign hN hm h (c := 43) (by decide)
    replace fr43 := (MFr.rf _ _ : MFr g g m).tr fr43
    rw [m_is h0, e43, axB_s]
    by_cases c43 : q_B t n (q_bl t n p) = 43
    · rw [if_pos c43] at x43
      rw [if_pos c43, if_neg (show ¬ (1 : Int32) = 0 by decide)]
      exact go 2 k43 (by unfold q_sS; rw [if_pos c43]) (by decide) (by rw [c43]; decide) x43 fr43
    rw [if_neg c43] at x43
    rw [if_neg c43, if_pos rfl]
    obtain ⟨k45, e45, x45, fr45⟩ := qm_takesSign hN hm x43 (c := 45) (by decide)
    rw [hss] at e45 x45
    replace fr45 := (fr43 : MFr g k43 m).tr fr45
    rw [m_is h0, e45, axB_s]
    by_cases c45 : q_B t n (q_bl t n p) = 45
    · rw [if_pos c45] at x45
      rw [if_pos c45, if_neg (show ¬ (1 : Int32) = 0 by decide)]
      exact go 3 k45 (by unfold q_sS; rw [if_neg c43, if_pos c45]) (by decide) (by rw [c45]; decide) x45 fr45
    rw [if_neg c45] at x45
    rw [if_neg c45, if_pos rfl]
    unfold F_X10_sum_38 q_lp
    rw [if_pos rfl, if_pos (show q_sS (q_B t n (q_bl t n p)) = -1 by unfold q_sS; rw [if_neg c43, if_neg c45])]
    exact ⟨k45, rfl, x45, by rw [List.append_nil]; exact fr45.ln hL, fr45.f8 h8, hr.tr fr45.nf⟩
theorem qm_sum (hN : 2000 < N) (hm : LMo Z m) (hn : n ≤ 150) {un : Nat → QO2} (hk : MKr Z m t n pl op (F_X10_product N kr m) un) (hkf : ∀ p, p ≤ n → q_ft D p n (un p)) : MKr Z m t n pl op (F_X10_sum N kr m) (fun p => q_ch q_sS un t n p) := by
  intro p acc g0 g h hL ha h8 hr
  have h0 := hm.1
  have hpn := h.2.2.2.2.2.2
  have K1 := hk p acc g0 g h hL ha h8 hr
  show QMn Z m t n pl op acc g0 _ (q_ch q_sS un t n p)
  unfold F_X10_sum q_ch
  rw [m_is h0]
  rcases e1 : un p with z | a
  · rw [e1] at K1
    obtain ⟨g1, q, y1, x1, r1⟩ := K1
    have h5 : g1 m 5 ≠ 0 := by
      rw [x1.2.2.1]
      exact (hkf p hpn).1 z e1
    rw [q_bd_l rfl, y1, axBV_s, qm_sum_d h0 (by omega) g1 h5]
    exact ⟨g1, q, rfl, x1, r1⟩
  rw [e1] at K1
  obtain ⟨g1, y1, x1, L1, h81, r1⟩ := K1
  obtain ⟨a1, a2, a3, -⟩ := (hkf p hpn).2 a e1
  rw [q_bd_r rfl, y1, axBV_s]
  have I := qm_sum_l (N := N) (kr := kr) (g0 := g0) hN hm hn hk hkf 150 a.2 N (acc ++ a.1) g1 (by omega) (by omega) x1 L1 (by rw [List.length_append]; omega) h81 r1
  rcases e5 : q_lp q_sS un t n 150 a.2 with z | y
  · rw [e5] at I
    rw [q_bd_l rfl]
    exact I
  · rw [e5] at I
    rw [q_bd_r rfl]
    obtain ⟨g5, y5, x5, L5, h85, r5⟩ := I
    refine ⟨g5, y5, x5, ?_, h85, r5⟩
    rw [List.append_assoc] at L5
    exact L5
theorem qm_SMd (hN : 2000 < N) (hm : LMo Z m) : ∀ d, 0 < d → MDd Z m (GG_X10_sum N d m) := by
  intro d hd
  obtain ⟨d, rfl⟩ : ∃ q, d = q + 1 := ⟨d - 1, by omega⟩
  exact qm_sumd hN hm.1 (qm_prodd hN hm.1 (qm_unitd hm.1))
theorem qm_SM (hN : 2000 < N) (hm : LMo Z m) (hn : n ≤ 150) : ∀ d op, op ≤ 6 → 7 ≤ d + op → MKr Z m t n pl op (GG_X10_sum N d m) (fun p => q_SM t n d op p) := by
  intro d
  induction d with
  | zero => intro op h1 h2; omega
  | succ d ih =>
    intro op h1 h2
    have hk : op < 6 → MKr Z m t n pl (op + 1) (GG_X10_sum N d m) (fun p => q_SM t n d (op + 1) p) := fun h => ih (op + 1) (by omega) (by omega)
    have hkd : op < 6 → MDd Z m (GG_X10_sum N d m) := fun h => qm_SMd hN hm d (by omega)
    have hkf : op < 6 → ∀ p, p ≤ n → q_ft (3 * (7 - (op + 1))) p n (q_SM t n d (op + 1) p) := fun h p hp => q_SM_f d (op + 1) p (by omega) (by omega) hp
    have U := qm_unit (pl := pl) (kr := GG_X10_sum N d) hN hm hn h1 hk hkd hkf
    have P := qm_prod hN hm hn U (fun p hp => q_un_f hkf hp)
    exact qm_sum hN hm hn P (fun p hp => q_PR_f (t := t) (p := p) hkf hp)
end
