/-! texts: where one stands in them, on both sides -/
def q_sk (P : Int32 → Bool) (t : QR) : Nat → Nat → Nat
  | 0, p => p
  | k + 1, p => if P (t p) = true then q_sk P t k (p + 1) else p
def q_skp (P : Int32 → Bool) (t : QR) (n p : Nat) : Nat := q_sk P t (n - p) p
theorem q_skp_n (P : Int32 → Bool) (t : QR) {n p : Nat} (h : n ≤ p) : q_skp P t n p = p := by
  unfold q_skp
  rw [show n - p = 0 by omega]
  rfl
theorem q_skp_s {P : Int32 → Bool} {t : QR} {n p : Nat} (h : p < n) (c : P (t p) = true) : q_skp P t n p = q_skp P t n (p + 1) := by
  unfold q_skp
  rw [show n - p = (n - (p + 1)) + 1 by omega]
  exact if_pos c
theorem q_skp_f {P : Int32 → Bool} {t : QR} {n p : Nat} (h : p < n) (c : ¬ P (t p) = true) : q_skp P t n p = p := by
  unfold q_skp
  rw [show n - p = (n - (p + 1)) + 1 by omega]
  exact if_neg c
theorem q_skp_le (P : Int32 → Bool) (t : QR) {n : Nat} : ∀ (k p : Nat), p + k = n → p ≤ q_skp P t n p ∧ q_skp P t n p ≤ n ∧ (q_skp P t n p < n → ¬ P (t (q_skp P t n p)) = true) ∧ ∀ j, p ≤ j → j < q_skp P t n p → P (t j) = true
  | 0, p, h => by
    rw [q_skp_n P t (by omega)]
    exact ⟨Nat.le_refl _, by omega, fun q => absurd q (by omega), fun j h1 h2 => absurd h2 (by omega)⟩
  | k + 1, p, h => by
    by_cases c : P (t p) = true
    · rw [q_skp_s (by omega) c]
      obtain ⟨h1, h2, h3, h4⟩ := q_skp_le (n := n) P t k (p + 1) (by omega)
      refine ⟨by omega, h2, h3, fun j j1 j2 => ?_⟩
      by_cases e : j = p
      · rw [e]; exact c
      · exact h4 j (by omega) j2
    · rw [q_skp_f (by omega) c]
      exact ⟨Nat.le_refl _, by omega, fun _ => c, fun j h1 h2 => absurd h2 (by omega)⟩
theorem q_skp_b (P : Int32 → Bool) (t : QR) {n p : Nat} (h : p ≤ n) : p ≤ q_skp P t n p ∧ q_skp P t n p ≤ n ∧ (q_skp P t n p < n → ¬ P (t (q_skp P t n p)) = true) ∧ ∀ j, p ≤ j → j < q_skp P t n p → P (t j) = true := q_skp_le P t (n - p) p (by omega)
theorem q_skp_i (P : Int32 → Bool) (t : QR) {n p : Nat} (h : p ≤ n) : q_skp P t n (q_skp P t n p) = q_skp P t n p := by
  obtain ⟨h1, h2, h3, -⟩ := q_skp_b P t h
  by_cases c : q_skp P t n p < n
  · exact q_skp_f c (h3 c)
  · exact q_skp_n P t (by omega)
def q_isB (x : Int32) : Bool := decide (x = 32)
def q_isD (x : Int32) : Bool := decide (48 ≤ x ∧ x ≤ 57)
def q_isL (x : Int32) : Bool := decide (97 ≤ x ∧ x ≤ 122)
def q_bl (t : QR) (n p : Nat) : Nat := q_skp q_isB t n p
def q_B (t : QR) (n p : Nat) : Int32 := if p < n then t p else -1
theorem q_B_lt {t : QR} {n p : Nat} {c : Int32} (hc : c ≠ -1) (h : q_B t n p = c) : p < n ∧ t p = c := by
  unfold q_B at h
  by_cases e : p < n
  · rw [if_pos e] at h
    exact ⟨e, h⟩
  · rw [if_neg e] at h
    exact absurd h.symm hc
theorem q_B_end {t : QR} {n p : Nat} (ht : ∀ j, j < n → t j ≠ -1) : q_B t n p = -1 ↔ n ≤ p := by
  unfold q_B
  by_cases e : p < n
  · rw [if_pos e]
    exact ⟨fun h => absurd h (ht p e), fun h => by omega⟩
  · rw [if_neg e]
    exact ⟨fun _ => by omega, fun _ => rfl⟩
/-- the class's tape -/
def CT (f : Nat → Nat → Int32) (u : Nat) (t : QR) (n p : Nat) (k pl : Int32) : Prop := f u 2 = Int32.ofNat n ∧ f u 3 = Int32.ofNat p ∧ f u 4 = k ∧ f u 5 = pl ∧ (∀ j, j < 600 → f (u + 1) j = t j) ∧ n ≤ 600 ∧ p ≤ n
def CFr (f f' : Nat → Nat → Int32) (u : Nat) : Prop := (∀ x, x ≠ u → f' x = f x) ∧ f' u 1 = f u 1
theorem CFr.rf (f : Nat → Nat → Int32) (u : Nat) : CFr f f u := ⟨fun _ _ => rfl, rfl⟩
theorem CFr.tr {f g h : Nat → Nat → Int32} {u : Nat} (h1 : CFr f g u) (h2 : CFr g h u) : CFr f h u := ⟨fun x hx => by rw [h2.1 x hx, h1.1 x hx], by rw [h2.2, h1.2]⟩
theorem CFr.w (f : Nat → Nat → Int32) {u k : Nat} (v : Int32) (h : k ≠ 1) : CFr f (ax2 f u k v) u := ⟨fun x hx => ax2_n _ _ _ _ hx, ax2_j _ _ _ _ _ (Ne.symm h)⟩
/-- the model's -/
def MT (f : Nat → Nat → Int32) (m : Nat) (t : QR) (n p : Nat) (k pl : Int32) : Prop := f m 2 = Int32.ofNat n ∧ f m 4 = Int32.ofNat p ∧ f m 5 = k ∧ f m 6 = pl ∧ (∀ j, j < 600 → f (m + 1) j = t j) ∧ n ≤ 600 ∧ p ≤ n
def MFr (f f' : Nat → Nat → Int32) (m : Nat) : Prop := (∀ x, x ≠ m → f' x = f x) ∧ ∀ j, j ≠ 4 → j ≠ 5 → j ≠ 6 → f' m j = f m j
theorem MFr.rf (f : Nat → Nat → Int32) (m : Nat) : MFr f f m := ⟨fun _ _ => rfl, fun _ _ _ _ => rfl⟩
theorem MFr.tr {f g h : Nat → Nat → Int32} {m : Nat} (h1 : MFr f g m) (h2 : MFr g h m) : MFr f h m := ⟨fun x hx => by rw [h2.1 x hx, h1.1 x hx], fun j a b c => by rw [h2.2 j a b c, h1.2 j a b c]⟩
theorem MFr.w (f : Nat → Nat → Int32) {m k : Nat} (v : Int32) (h : k = 4 ∨ k = 5 ∨ k = 6) : MFr f (ax2 f m k v) m := ⟨fun x hx => ax2_n _ _ _ _ hx, fun j a b c => ax2_j _ _ _ _ _ (by omega)⟩
theorem CT.at {f : Nat → Nat → Int32} {u n p q : Nat} {t : QR} {k pl : Int32} (h : CT f u t n p k pl) (hq : q ≤ n) : CT (ax2 f u 3 (Int32.ofNat q)) u t n q k pl := by
  obtain ⟨h1, h2, h3, h4, h5, h6, h7⟩ := h
  exact ⟨by rw [ax2_j _ _ _ _ _ (by omega), h1], ax2_k _ _ _ _, by rw [ax2_j _ _ _ _ _ (by omega), h3], by rw [ax2_j _ _ _ _ _ (by omega), h4], fun j hj => by rw [ax2_n _ _ _ _ (by omega)]; exact h5 j hj, h6, hq⟩
theorem CT.ws {f : Nat → Nat → Int32} {u n p j : Nat} {t : QR} {k pl : Int32} (h : CT f u t n p k pl) (v : Int32) (hj : j = 6 ∨ j = 7) : CT (ax2 f u j v) u t n p k pl := by
  obtain ⟨h1, h2, h3, h4, h5, h6, h7⟩ := h
  exact ⟨by rw [ax2_j _ _ _ _ _ (by omega), h1], by rw [ax2_j _ _ _ _ _ (by omega), h2], by rw [ax2_j _ _ _ _ _ (by omega), h3], by rw [ax2_j _ _ _ _ _ (by omega), h4], fun i hi => by rw [ax2_n _ _ _ _ (by omega)]; exact h5 i hi, h6, h7⟩
theorem MT.at {f : Nat → Nat → Int32} {m n p q : Nat} {t : QR} {k pl : Int32} (h : MT f m t n p k pl) (hq : q ≤ n) : MT (ax2 f m 4 (Int32.ofNat q)) m t n q k pl := by
  obtain ⟨h1, h2, h3, h4, h5, h6, h7⟩ := h
  exact ⟨by rw [ax2_j _ _ _ _ _ (by omega), h1], ax2_k _ _ _ _, by rw [ax2_j _ _ _ _ _ (by omega), h3], by rw [ax2_j _ _ _ _ _ (by omega), h4], fun j hj => by rw [ax2_n _ _ _ _ (by omega)]; exact h5 j hj, h6, hq⟩
section
variable {Z : AxS} {u m N n p : Nat} {f : Nat → Nat → Int32} {t : QR} {k pl : Int32}
theorem qc_sign_0 (hu : LTa Z u) : ∀ (c p fu : Nat) (f : Nat → Nat → Int32), p + c = n → c < fu → CT f u t n p k pl → ∃ f', F_X7_sign_0 N fu u (axM Z f) = some (q_B t n (q_bl t n p), axM Z f') ∧ CT f' u t n (q_bl t n p) k pl ∧ CFr f f' u := by
  obtain ⟨h0, h1, h2⟩ := hu
  intro c
  induction c with
  | zero =>
    intro p fu f hp hfu h
    obtain ⟨fu, rfl⟩ : ∃ q, fu = q + 1 := ⟨fu - 1, by omega⟩
    show ∃ f', F_X7_sign_0b N (F_X7_sign_0 N fu) u (axM Z f) = _ ∧ _
    have h' := h
    obtain ⟨c1, c2, c3, c4, c5, c6, c7⟩ := h'
    unfold F_X7_sign_0b F_X7_sign_40
    rw [m_gi h0, c2, m_gi h0, c1, if_pos (qi_ge (by omega) (by omega)), m_gi h0, c2, m_gi h0, c1, if_pos (qi_ge (by omega) (by omega))]
    unfold q_bl
    rw [q_skp_n _ _ (by omega)]
    unfold q_B
    rw [if_neg (by omega)]
    exact ⟨f, rfl, h, CFr.rf _ _⟩
  | succ c ih =>
    intro p fu f hp hfu h
    obtain ⟨fu, rfl⟩ : ∃ q, fu = q + 1 := ⟨fu - 1, by omega⟩
    show ∃ f', F_X7_sign_0b N (F_X7_sign_0 N fu) u (axM Z f) = _ ∧ _
    have h' := h
    obtain ⟨c1, c2, c3, c4, c5, c6, c7⟩ := h'
    unfold F_X7_sign_0b F_X7_sign_40
    rw [m_gi h0, c2, m_gi h0, c1, if_neg (qi_nge (by omega) (by omega)), m_gr h0 h1, m_gi h0, c2, m_atn N h2 (show p < 600 by omega) (by omega), axB_s, c5 p (by omega)]
    unfold q_bl
    by_cases e : t p = 32
    · rw [if_pos e, m_gi h0, c2, m_pi h0, qi_s, q_skp_s (by omega) (show q_isB (t p) = true from decide_eq_true e)]
      obtain ⟨f2, e2, g2, fr2⟩ := ih (p + 1) fu (ax2 f u 3 (Int32.ofNat (p + 1))) (by omega) (by omega) (h.at (by omega))
      exact ⟨f2, e2, g2, (CFr.w f _ (by omega)).tr fr2⟩
    · rw [if_neg e, m_gi h0, c2, m_gi h0, c1, if_neg (qi_nge (by omega) (by omega)), m_gr h0 h1, m_gi h0, c2, m_atn N h2 (show p < 600 by omega) (by omega), axB_s, c5 p (by omega), q_skp_f (by omega) (show ¬ q_isB (t p) = true from fun z => e (of_decide_eq_true z))]
      unfold q_B
      rw [if_pos (by omega)]
      exact ⟨f, rfl, h, CFr.rf _ _⟩
theorem qc_sign (hN : 2000 < N) (hu : LTa Z u) (h : CT f u t n p k pl) : ∃ f', F_X7_sign N u (axM Z f) = some (q_B t n (q_bl t n p), axM Z f') ∧ CT f' u t n (q_bl t n p) k pl ∧ CFr f f' u := qc_sign_0 hu (n - p) p N f (by have := h.2.2.2.2.2.2; omega) (by have := h.2.2.2.2.2.1; omega) h
theorem qc_fails (hu : axL Z u = some (0, 7)) (h : CT f u t n p k pl) (a w : Int32) : ∃ f', F_X7_fails N u a w (axM Z f) = some (0, axM Z f') ∧ CT f' u t n p (if k = 0 then a else k) (if k = 0 then w else pl) ∧ CFr f f' u := by
  have h' := h
  obtain ⟨c1, c2, c3, c4, c5, c6, c7⟩ := h'
  unfold F_X7_fails
  rw [m_gi hu, c3]
  by_cases e : k = 0
  · simp only [if_pos e]
    rw [m_pi hu, m_pi hu, m_rz0]
    exact ⟨_, rfl, ⟨by rw [ax2_j _ _ _ _ _ (by omega), ax2_j _ _ _ _ _ (by omega), c1], by rw [ax2_j _ _ _ _ _ (by omega), ax2_j _ _ _ _ _ (by omega), c2], by rw [ax2_j _ _ _ _ _ (by omega), ax2_k], ax2_k _ _ _ _, fun j hj => by rw [ax2_n _ _ _ _ (by omega), ax2_n _ _ _ _ (by omega)]; exact c5 j hj, c6, c7⟩, (CFr.w f _ (by omega)).tr (CFr.w _ _ (by omega))⟩
  · simp only [if_neg e]
    rw [m_rz0]
    exact ⟨f, rfl, h, CFr.rf _ _⟩
/-- takes: a sign that is wanted -/
theorem qc_takes (hN : 2000 < N) (hu : LTa Z u) (h : CT f u t n p k pl) {c : Int32} (hc : c ≠ -1) : (k = 0 ∧ q_B t n (q_bl t n p) = c → ∃ f', F_X7_takes N u c (axM Z f) = some (1, axM Z f') ∧ CT f' u t n (q_bl t n p + 1) 0 pl ∧ CFr f f' u) ∧ (¬ (k = 0 ∧ q_B t n (q_bl t n p) = c) → ∃ f' q, F_X7_takes N u c (axM Z f) = some (0, axM Z f') ∧ CT f' u t n q (if k = 0 then 1 else k) (if k = 0 then Int32.ofNat (q_bl t n p) else pl) ∧ CFr f f' u) := by
  have h0 := hu.1
  obtain ⟨f1, e1, g1, fr1⟩ := qc_sign hN hu h
  have g1' := g1
  obtain ⟨c1, c2, c3, c4, c5, c6, c7⟩ := g1'
  unfold F_X7_takes
  rw [m_is h0, e1, axB_s]
  by_cases cb : q_B t n (q_bl t n p) = c
  · obtain ⟨hlt, -⟩ := q_B_lt hc cb
    have g2 := g1.at (q := q_bl t n p + 1) (by omega)
    have g24 := g2.2.2.1
    rw [if_pos cb, m_gi h0, c2, m_pi h0, qi_s, m_gi h0, g24]
    refine ⟨fun z => ?_, fun z => ?_⟩
    · obtain ⟨rfl, -⟩ := z
      rw [if_pos rfl, m_rz1]
      exact ⟨_, rfl, g2, fr1.tr (CFr.w _ _ (by omega))⟩
    · have hk : ¬ k = 0 := fun e => z ⟨e, cb⟩
      simp only [if_neg hk]
      rw [m_rz0]
      exact ⟨_, _, rfl, g2, fr1.tr (CFr.w _ _ (by omega))⟩
  · rw [if_neg cb]
    refine ⟨fun z => absurd z.2 cb, fun _ => ?_⟩
    obtain ⟨f2, e2, g2, fr2⟩ := qc_fails (N := N) h0 g1 1 (Int32.ofNat (q_bl t n p))
    rw [m_gi h0, c2, m_is h0, e2, axB_s, m_rz0]
    exact ⟨f2, _, rfl, g2, fr1.tr fr2⟩
-- the model
theorem qm_byteAt (hm : LMo Z m) (h : MT f m t n p k pl) (q : Nat) (hq : q < 100000) : F_X10_byteAt N m (Int32.ofNat q) (axM Z f) = some (q_B t n q, axM Z f) := by
  obtain ⟨c1, c2, c3, c4, c5, c6, c7⟩ := h
  have p9 : axP Z m 9 = some (m + 1) := hm.2.1 9 1 rfl
  have s1 : axL Z (m + 1) = some (1, 600) := hm.2.2.1 1 _ rfl
  unfold F_X10_byteAt q_B
  rw [m_gi hm.1, c1]
  by_cases e : q < n
  · rw [if_pos (qi_gt e (by omega)), if_pos e, m_gr hm.1 p9, m_ldn s1 (show q < 600 by omega) (by omega), c5 q (by omega)]
  · rw [if_neg (qi_ngt (by omega) (by omega)), if_neg e]
theorem qm_blanks_0 (hm : LMo Z m) : ∀ (c p fu : Nat) (f : Nat → Nat → Int32), p + c = n → c < fu → MT f m t n p k pl → ∃ f', F_X10_blanks_0 N fu m (axM Z f) = some (axM Z f') ∧ MT f' m t n (q_bl t n p) k pl ∧ MFr f f' m := by
  have h0 := hm.1
  intro c
  induction c with
  | zero =>
    intro p fu f hp hfu h
    obtain ⟨fu, rfl⟩ : ∃ q, fu = q + 1 := ⟨fu - 1, by omega⟩
    show ∃ f', F_X10_blanks_0b N (F_X10_blanks_0 N fu) m (axM Z f) = _ ∧ _
    have h6 := h.2.2.2.2.2.1
    unfold F_X10_blanks_0b q_bl
    rw [m_gi h0, h.2.1, m_is h0, qm_byteAt hm h p (by omega), axB_s, q_skp_n _ _ (by omega)]
    unfold q_B
    rw [if_neg (show ¬ p < n by omega), if_neg (show ¬ (-1 : Int32) = 32 by decide)]
    exact ⟨f, rfl, h, MFr.rf _ _⟩
  | succ c ih =>
    intro p fu f hp hfu h
    obtain ⟨fu, rfl⟩ : ∃ q, fu = q + 1 := ⟨fu - 1, by omega⟩
    show ∃ f', F_X10_blanks_0b N (F_X10_blanks_0 N fu) m (axM Z f) = _ ∧ _
    have h6 := h.2.2.2.2.2.1
    unfold F_X10_blanks_0b q_bl
    rw [m_gi h0, h.2.1, m_is h0, qm_byteAt hm h p (by omega), axB_s]
    unfold q_B
    rw [if_pos (show p < n by omega)]
    by_cases e : t p = 32
    · rw [if_pos e, m_gi h0, h.2.1, m_pi h0, qi_s, q_skp_s (by omega) (show q_isB (t p) = true from decide_eq_true e)]
      obtain ⟨f2, e2, g2, fr2⟩ := ih (p + 1) fu (ax2 f m 4 (Int32.ofNat (p + 1))) (by omega) (by omega) (h.at (by omega))
      exact ⟨f2, e2, g2, (MFr.w f _ (by omega)).tr fr2⟩
    · rw [if_neg e, q_skp_f (by omega) (show ¬ q_isB (t p) = true from fun z => e (of_decide_eq_true z))]
      exact ⟨f, rfl, h, MFr.rf _ _⟩
theorem qm_blanks (hN : 2000 < N) (hm : LMo Z m) (h : MT f m t n p k pl) : ∃ f', F_X10_blanks N m (axM Z f) = some (axM Z f') ∧ MT f' m t n (q_bl t n p) k pl ∧ MFr f f' m := qm_blanks_0 hm (n - p) p N f (by have := h.2.2.2.2.2.2; omega) (by have := h.2.2.2.2.2.1; omega) h
theorem qm_wrong (h0 : axL Z m = some (0, 10)) (h : MT f m t n p k pl) (a w : Int32) : ∃ f', F_X10_wrong N m a w (axM Z f) = some (axM Z f') ∧ MT f' m t n p (if k = 0 then a else k) (if k = 0 then w else pl) ∧ MFr f f' m := by
  have h' := h
  obtain ⟨c1, c2, c3, c4, c5, c6, c7⟩ := h'
  unfold F_X10_wrong
  rw [m_gi h0, c3]
  by_cases e : k = 0
  · simp only [if_pos e]
    rw [m_pi h0, m_pi h0]
    exact ⟨_, rfl, ⟨by rw [ax2_j _ _ _ _ _ (by omega), ax2_j _ _ _ _ _ (by omega), c1], by rw [ax2_j _ _ _ _ _ (by omega), ax2_j _ _ _ _ _ (by omega), c2], by rw [ax2_j _ _ _ _ _ (by omega), ax2_k], ax2_k _ _ _ _, fun j hj => by rw [ax2_n _ _ _ _ (by omega), ax2_n _ _ _ _ (by omega)]; exact c5 j hj, c6, c7⟩, (MFr.w f _ (by omega)).tr (MFr.w _ _ (by omega))⟩
  · simp only [if_neg e]
    exact ⟨f, rfl, h, MFr.rf _ _⟩
theorem qm_sign (hN : 2000 < N) (hm : LMo Z m) (h : MT f m t n p k pl) {c : Int32} (hc : c ≠ -1) : (k = 0 ∧ q_B t n (q_bl t n p) = c → ∃ f', F_X10_sign N m c (axM Z f) = some (axM Z f') ∧ MT f' m t n (q_bl t n p + 1) 0 pl ∧ MFr f f' m) ∧ (¬ (k = 0 ∧ q_B t n (q_bl t n p) = c) → ∃ f' q, F_X10_sign N m c (axM Z f) = some (axM Z f') ∧ MT f' m t n q (if k = 0 then 1 else k) (if k = 0 then Int32.ofNat (q_bl t n p) else pl) ∧ MFr f f' m) := by
  have h0 := hm.1
  unfold F_X10_sign
  rw [m_gi h0, h.2.2.1]
  by_cases hk : k = 0
  · subst hk
    obtain ⟨f1, e1, g1, fr1⟩ := qm_blanks hN hm h
    have h6 := g1.2.2.2.2.2.1
    have h7 := g1.2.2.2.2.2.2
    rw [if_pos rfl, m_is h0, e1, axBV_s, m_gi h0, g1.2.1, m_is h0, qm_byteAt hm g1 _ (by omega), axB_s]
    by_cases cb : q_B t n (q_bl t n p) = c
    · obtain ⟨hlt, -⟩ := q_B_lt hc cb
      rw [if_pos cb, m_gi h0, g1.2.1, m_pi h0, qi_s]
      exact ⟨fun _ => ⟨_, rfl, g1.at (by omega), fr1.tr (MFr.w _ _ (by omega))⟩, fun z => absurd ⟨rfl, cb⟩ z⟩
    · obtain ⟨f2, e2, g2, fr2⟩ := qm_wrong (N := N) h0 g1 1 (Int32.ofNat (q_bl t n p))
      rw [if_neg cb, m_gi h0, g1.2.1, m_is h0, e2, axBV_s]
      exact ⟨fun z => absurd z.2 cb, fun _ => ⟨f2, _, rfl, g2, fr1.tr fr2⟩⟩
  · simp only [if_neg hk]
    exact ⟨fun z => absurd z.1 hk, fun _ => ⟨f, p, rfl, h, MFr.rf _ _⟩⟩
theorem qm_takesSign (hN : 2000 < N) (hm : LMo Z m) (h : MT f m t n p 0 pl) {c : Int32} (hc : c ≠ -1) : ∃ f', F_X10_takesSign N m c (axM Z f) = some (if q_B t n (q_bl t n p) = c then 1 else 0, axM Z f') ∧ MT f' m t n (if q_B t n (q_bl t n p) = c then q_bl t n p + 1 else q_bl t n p) 0 pl ∧ MFr f f' m := by
  have h0 := hm.1
  unfold F_X10_takesSign F_X10_takesSign_30
  rw [m_gi h0, h.2.2.1]
  obtain ⟨f1, e1, g1, fr1⟩ := qm_blanks hN hm h
  have h6 := g1.2.2.2.2.2.1
  have h7 := g1.2.2.2.2.2.2
  rw [if_pos rfl, m_is h0, e1, axBV_s, m_gi h0, g1.2.1, m_is h0, qm_byteAt hm g1 _ (by omega), axB_s]
  by_cases cb : q_B t n (q_bl t n p) = c
  · obtain ⟨hlt, -⟩ := q_B_lt hc cb
    simp only [if_pos cb]
    rw [if_neg (show ¬ (1 : Int32) = 0 by decide), m_gi h0, g1.2.1, m_pi h0, qi_s, m_rz1]
    exact ⟨_, rfl, g1.at (by omega), fr1.tr (MFr.w _ _ (by omega))⟩
  · simp only [if_neg cb]
    rw [if_pos trivial, m_rz0]
    exact ⟨_, rfl, g1, fr1⟩
end
