/-! texts: numbers and words -/
def q_val (t : QR) : Nat → Nat → Nat → Nat
  | 0, _, v => v
  | k + 1, p, v => q_val t k (p + 1) (min 100000 (10 * v + ((t p).toNatClampNeg - 48)))
def q_dgt (t : QR) (n p : Nat) : Nat := q_skp q_isD t n p
def q_num (t : QR) (n p : Nat) : Nat := q_val t (q_dgt t n p - p) p 0
def q_wrl (t : QR) (n p : Nat) : Nat := q_skp q_isL t n p
theorem q_isD_n {x : Int32} (h : q_isD x = true) : ∃ y, 48 ≤ y ∧ y ≤ 57 ∧ x = Int32.ofNat y := by
  obtain ⟨h1, h2⟩ := of_decide_eq_true h
  obtain ⟨y, hy, e⟩ := q_nn (Int32.le_trans (show (0 : Int32) ≤ 48 by decide) h1) (show x ≤ Int32.ofNat 57 from h2) (by omega)
  rw [e] at h1
  have : Int32.ofNat 48 ≤ Int32.ofNat y := h1
  rw [qi_le (by omega) (by omega)] at this
  exact ⟨y, this, hy, e⟩
theorem q_isL_n {x : Int32} (h : q_isL x = true) : ∃ y, 97 ≤ y ∧ y ≤ 122 ∧ x = Int32.ofNat y := by
  obtain ⟨h1, h2⟩ := of_decide_eq_true h
  obtain ⟨y, hy, e⟩ := q_nn (Int32.le_trans (show (0 : Int32) ≤ 97 by decide) h1) (show x ≤ Int32.ofNat 122 from h2) (by omega)
  rw [e] at h1
  have : Int32.ofNat 97 ≤ Int32.ofNat y := h1
  rw [qi_le (by omega) (by omega)] at this
  exact ⟨y, this, hy, e⟩
theorem m_isD7 (N : Nat) (x : Int32) (S : AxS) : F_X7_isDigit N x S = some (if q_isD x = true then 1 else 0, S) := by
  unfold F_X7_isDigit q_isD
  rw [q_rg rfl, m_rz1, m_rz0]
  by_cases c : 48 ≤ x ∧ x ≤ 57
  · rw [if_pos c, if_pos (decide_eq_true c)]
  · rw [if_neg c, if_neg (fun z => c (of_decide_eq_true z))]
theorem m_isD10 (N : Nat) (x : Int32) (S : AxS) : F_X10_isDigit N x S = some (if q_isD x = true then 1 else 0, S) := by
  unfold F_X10_isDigit q_isD
  rw [q_rg rfl, m_rz1, m_rz0]
  by_cases c : 48 ≤ x ∧ x ≤ 57
  · rw [if_pos c, if_pos (decide_eq_true c)]
  · rw [if_neg c, if_neg (fun z => c (of_decide_eq_true z))]
theorem m_isL10 (N : Nat) (x : Int32) (S : AxS) : F_X10_isSmall N x S = some (if q_isL x = true then 1 else 0, S) := by
  unfold F_X10_isSmall q_isL
  rw [q_rg rfl, m_rz1, m_rz0]
  by_cases c : 97 ≤ x ∧ x ≤ 122
  · rw [if_pos c, if_pos (decide_eq_true c)]
  · rw [if_neg c, if_neg (fun z => c (of_decide_eq_true z))]
theorem q_val_le (t : QR) : ∀ k p v, v ≤ 100000 → q_val t k p v ≤ 100000
  | 0, _, _, h => h
  | k + 1, p, v, h => q_val_le t k (p + 1) _ (by omega)
theorem q_num_le (t : QR) (n p : Nat) : q_num t n p ≤ 100000 := q_val_le t _ _ 0 (by omega)
/-- a number is told, and may be -/
def q_nok (t : QR) (n p : Nat) (lo hi : Int32) : Prop := q_isD (q_B t n (q_bl t n p)) = true ∧ lo ≤ Int32.ofNat (q_num t n (q_bl t n p)) ∧ Int32.ofNat (q_num t n (q_bl t n p)) ≤ hi
def q_nfk (t : QR) (n p : Nat) : Int32 := if q_isD (q_B t n (q_bl t n p)) = true then 2 else 1
section
variable {Z : AxS} {u m N n p : Nat} {f : Nat → Nat → Int32} {t : QR} {k pl : Int32}
theorem qc_num_l (hu : LTa Z u) {s : Nat} {lo hi : Int32} (hhi : hi < 100000) : ∀ (c p fu v w : Nat) (f : Nat → Nat → Int32), p + c = n → c < fu → CT f u t n p k pl → f u 7 = Int32.ofNat s → ((w = v ∧ v < 100000) ∨ (v = 100000 ∧ 100000 ≤ w ∧ w ≤ 1000000)) → (lo ≤ Int32.ofNat (q_val t (q_dgt t n p - p) p v) ∧ Int32.ofNat (q_val t (q_dgt t n p - p) p v) ≤ hi → ∃ f', F_X7_number_32 N fu u lo hi (Int32.ofNat w) (axM Z f) = some (Int32.ofNat (q_val t (q_dgt t n p - p) p v), axM Z f') ∧ CT f' u t n (q_dgt t n p) k pl ∧ f' u 7 = Int32.ofNat s ∧ CFr f f' u) ∧ (¬ (lo ≤ Int32.ofNat (q_val t (q_dgt t n p - p) p v) ∧ Int32.ofNat (q_val t (q_dgt t n p - p) p v) ≤ hi) → ∃ f', F_X7_number_32 N fu u lo hi (Int32.ofNat w) (axM Z f) = some (-1, axM Z f') ∧ CT f' u t n (q_dgt t n p) (if k = 0 then 2 else k) (if k = 0 then Int32.ofNat s else pl) ∧ CFr f f' u) := by
  obtain ⟨h0, h1, h2⟩ := hu
  have stop : ∀ (p v w : Nat) (f : Nat → Nat → Int32), CT f u t n p k pl → f u 7 = Int32.ofNat s → ((w = v ∧ v < 100000) ∨ (v = 100000 ∧ 100000 ≤ w ∧ w ≤ 1000000)) → (lo ≤ Int32.ofNat v ∧ Int32.ofNat v ≤ hi → ∃ f', F_X7_number_98 N u lo hi (Int32.ofNat w) (axM Z f) = some (Int32.ofNat v, axM Z f') ∧ CT f' u t n p k pl ∧ f' u 7 = Int32.ofNat s ∧ CFr f f' u) ∧ (¬ (lo ≤ Int32.ofNat v ∧ Int32.ofNat v ≤ hi) → ∃ f', F_X7_number_98 N u lo hi (Int32.ofNat w) (axM Z f) = some (-1, axM Z f') ∧ CT f' u t n p (if k = 0 then 2 else k) (if k = 0 then Int32.ofNat s else pl) ∧ CFr f f' u) := by
    intro p v w f h h7 hv
    obtain ⟨f2, e2, g2, fr2⟩ := qc_fails (N := N) h0 h 2 (Int32.ofNat s)
    have e108 : F_X7_number_108 N u (axM Z f) = some (-1, axM Z f2) := by
      unfold F_X7_number_108
      rw [m_gi h0, h7, m_is h0, e2, axB_s]
    unfold F_X7_number_98
    rw [e108]
    rcases hv with ⟨rfl, hv⟩ | ⟨rfl, hv, hv2⟩
    · refine ⟨fun z => ?_, fun z => ?_⟩
      · rw [if_neg (Int32.not_lt.mpr z.1), if_pos z.2]
        exact ⟨f, rfl, h, h7, CFr.rf _ _⟩
      · by_cases c1 : Int32.ofNat w < lo
        · rw [if_pos c1]
          exact ⟨f2, rfl, g2, fr2⟩
        · rw [if_neg c1, if_neg (fun q => z ⟨Int32.not_lt.mp c1, q⟩)]
          exact ⟨f2, rfl, g2, fr2⟩
    · have big : ∀ y : Nat, 100000 ≤ y → y ≤ 1000000 → ¬ Int32.ofNat y ≤ hi := fun y h1 h2 q => by
        have : (100000 : Int32) ≤ hi := Int32.le_trans (show Int32.ofNat 100000 ≤ Int32.ofNat y by rw [qi_le (by omega) (by omega)]; exact h1) q
        exact Int32.not_lt.mpr this hhi
      refine ⟨fun z => absurd z.2 (big 100000 (by omega) (by omega)), fun z => ?_⟩
      by_cases c1 : Int32.ofNat w < lo
      · rw [if_pos c1]
        exact ⟨f2, rfl, g2, fr2⟩
      · rw [if_neg c1, if_neg (big w hv hv2)]
        exact ⟨f2, rfl, g2, fr2⟩
  intro c
  induction c with
  | zero =>
    intro p fu v w f hp hfu h h7 hv
    obtain ⟨fu, rfl⟩ : ∃ q, fu = q + 1 := ⟨fu - 1, by omega⟩
    have e : F_X7_number_32 N (fu + 1) u lo hi (Int32.ofNat w) (axM Z f) = F_X7_number_98 N u lo hi (Int32.ofNat w) (axM Z f) := by
      show F_X7_number_32b N (F_X7_number_32 N fu) u lo hi (Int32.ofNat w) (axM Z f) = _
      obtain ⟨c1, c2, c3, c4, c5, c6, c7⟩ := h
      unfold F_X7_number_32b
      rw [m_gi h0, c2, m_gi h0, c1, if_pos (qi_ge (by omega) (by omega))]
    rw [e]
    unfold q_dgt
    rw [q_skp_n _ _ (by omega), Nat.sub_self]
    exact stop p v w f h h7 hv
  | succ c ih =>
    intro p fu v w f hp hfu h h7 hv
    obtain ⟨fu, rfl⟩ : ∃ q, fu = q + 1 := ⟨fu - 1, by omega⟩
    have h' := h
    obtain ⟨c1, c2, c3, c4, c5, c6, c7⟩ := h'
    have e : F_X7_number_32 N (fu + 1) u lo hi (Int32.ofNat w) (axM Z f) = if q_isD (t p) = true then F_X7_number_32 N fu u lo hi (q_min 1000000 (10 * Int32.ofNat w + t p - 48)) (axM Z (ax2 f u 3 (Int32.ofNat (p + 1)))) else F_X7_number_98 N u lo hi (Int32.ofNat w) (axM Z f) := by
      show F_X7_number_32b N (F_X7_number_32 N fu) u lo hi (Int32.ofNat w) (axM Z f) = _
      unfold F_X7_number_32b
      rw [m_gi h0, c2, m_gi h0, c1, if_neg (qi_nge (by omega) (by omega)), m_gr h0 h1, m_gi h0, c2, m_atn N h2 (show p < 600 by omega) (by omega), axB_s, c5 p (by omega), m_isD7, axB_s]
      by_cases cd : q_isD (t p) = true
      · simp only [if_pos cd]
        rw [if_neg (show ¬ (1 : Int32) = 0 by decide), m_gr h0 h1, m_gi h0, c2, m_atn N h2 (show p < 600 by omega) (by omega), axB_s, c5 p (by omega), m_min, axB_s, m_gi h0, c2, m_pi h0, qi_s]
      · simp only [if_neg cd]
        rw [if_pos trivial]
    rw [e]
    unfold q_dgt
    by_cases cd : q_isD (t p) = true
    · obtain ⟨y, y1, y2, ey⟩ := q_isD_n cd
      have hs := q_skp_s (P := q_isD) (t := t) (show p < n by omega) cd
      have hle := (q_skp_b q_isD t (show p + 1 ≤ n by omega)).1
      rw [if_pos cd, hs, show q_skp q_isD t n (p + 1) - p = (q_skp q_isD t n (p + 1) - (p + 1)) + 1 by omega]
      have ev : q_val t ((q_skp q_isD t n (p + 1) - (p + 1)) + 1) p v = q_val t (q_skp q_isD t n (p + 1) - (p + 1)) (p + 1) (min 100000 (10 * v + (y - 48))) := by
        show q_val t _ (p + 1) (min 100000 (10 * v + ((t p).toNatClampNeg - 48))) = _
        rw [ey, qi_tn (by omega)]
      have ew : q_min 1000000 (10 * Int32.ofNat w + t p - 48) = Int32.ofNat (min 1000000 (10 * w + (y - 48))) := by
        rw [ey, show (10 : Int32) * Int32.ofNat w = Int32.ofNat (10 * w) from qi_mul 10 w, qi_add, show Int32.ofNat (10 * w + y) - 48 = Int32.ofNat (10 * w + y - 48) from qi_sub (j := 48) (by omega), show q_min 1000000 (Int32.ofNat (10 * w + y - 48)) = Int32.ofNat (min 1000000 (10 * w + y - 48)) from q_minn (i := 1000000) (by omega) (by omega), show 10 * w + y - 48 = 10 * w + (y - 48) by omega]
      rw [ev, ew]
      have r := ih (p + 1) fu (min 100000 (10 * v + (y - 48))) (min 1000000 (10 * w + (y - 48))) (ax2 f u 3 (Int32.ofNat (p + 1))) (by omega) (by omega) (h.at (by omega)) (by rw [ax2_j _ _ _ _ _ (by omega), h7]) (by omega)
      unfold q_dgt at r
      refine ⟨fun z => ?_, fun z => ?_⟩
      · obtain ⟨f2, e2, g2, g7, fr2⟩ := r.1 z
        exact ⟨f2, e2, g2, g7, (CFr.w f _ (by omega)).tr fr2⟩
      · obtain ⟨f2, e2, g2, fr2⟩ := r.2 z
        exact ⟨f2, e2, g2, (CFr.w f _ (by omega)).tr fr2⟩
    · rw [if_neg cd, q_skp_f (by omega) cd, Nat.sub_self]
      exact stop p v w f h h7 hv
theorem qc_number (hN : 2000 < N) (hu : LTa Z u) (h : CT f u t n p k pl) {lo hi : Int32} (hhi : hi < 100000) : (k = 0 ∧ q_nok t n p lo hi → ∃ f', F_X7_number N u lo hi (axM Z f) = some (Int32.ofNat (q_num t n (q_bl t n p)), axM Z f') ∧ CT f' u t n (q_dgt t n (q_bl t n p)) 0 pl ∧ f' u 7 = Int32.ofNat (q_bl t n p) ∧ CFr f f' u) ∧ (¬ (k = 0 ∧ q_nok t n p lo hi) → ∃ f' q x, F_X7_number N u lo hi (axM Z f) = some (x, axM Z f') ∧ (k = 0 → x = -1) ∧ CT f' u t n q (if k = 0 then q_nfk t n p else k) (if k = 0 then Int32.ofNat (q_bl t n p) else pl) ∧ CFr f f' u) := by
  have h0 := hu.1
  obtain ⟨f1, e1, g1, fr1⟩ := qc_sign hN hu h
  have c2 := g1.2.1
  have c6 := g1.2.2.2.2.2.1
  have c7 := g1.2.2.2.2.2.2
  unfold F_X7_number q_nfk q_nok
  rw [m_is h0, e1, axB_s, m_isD7, axB_s]
  by_cases cd : q_isD (q_B t n (q_bl t n p)) = true
  · simp only [if_pos cd]
    rw [if_neg (show ¬ (1 : Int32) = 0 by decide), m_gi h0, c2, m_pi h0]
    have r := qc_num_l (N := N) hu (s := q_bl t n p) (lo := lo) hhi (n - q_bl t n p) (q_bl t n p) N 0 0 (ax2 f1 u 7 (Int32.ofNat (q_bl t n p))) (by omega) (by omega) (g1.ws _ (Or.inr rfl)) (ax2_k _ _ _ _) (Or.inl ⟨rfl, by omega⟩)
    refine ⟨fun z => ?_, fun z => ?_⟩
    · obtain ⟨f2, e2, g2, g7, fr2⟩ := r.1 z.2.2
      obtain ⟨rfl, -⟩ := z
      exact ⟨f2, e2, g2, g7, fr1.tr ((CFr.w f1 _ (by omega)).tr fr2)⟩
    · by_cases cv : lo ≤ Int32.ofNat (q_val t (q_dgt t n (q_bl t n p) - q_bl t n p) (q_bl t n p) 0) ∧ Int32.ofNat (q_val t (q_dgt t n (q_bl t n p) - q_bl t n p) (q_bl t n p) 0) ≤ hi
      · obtain ⟨f2, e2, g2, g7, fr2⟩ := r.1 cv
        have hk : ¬ k = 0 := fun e => z ⟨e, cd, cv⟩
        refine ⟨f2, q_dgt t n (q_bl t n p), _, e2, fun e => absurd e hk, ?_, fr1.tr ((CFr.w f1 _ (by omega)).tr fr2)⟩
        rw [if_neg hk, if_neg hk]
        exact g2
      · obtain ⟨f2, e2, g2, fr2⟩ := r.2 cv
        exact ⟨f2, _, _, e2, fun _ => rfl, g2, fr1.tr ((CFr.w f1 _ (by omega)).tr fr2)⟩
  · simp only [if_neg cd]
    obtain ⟨f2, e2, g2, fr2⟩ := qc_fails (N := N) h0 g1 1 (Int32.ofNat (q_bl t n p))
    rw [if_pos trivial, m_gi h0, c2, m_is h0, e2, axB_s]
    exact ⟨fun z => absurd z.2.1 cd, fun _ => ⟨f2, _, _, rfl, fun _ => rfl, g2, fr1.tr fr2⟩⟩
theorem qm_num_l (hm : LMo Z m) {s : Nat} {lo hi : Int32} : ∀ (c p fu v : Nat) (f : Nat → Nat → Int32), p + c = n → c < fu → MT f m t n p k pl → v ≤ 100000 → ∃ f', F_X10_number_44 N fu m lo hi (Int32.ofNat s) (Int32.ofNat v) (axM Z f) = (if lo ≤ Int32.ofNat (q_val t (q_dgt t n p - p) p v) ∧ Int32.ofNat (q_val t (q_dgt t n p - p) p v) ≤ hi then F_X10_number_122 N m (Int32.ofNat (q_val t (q_dgt t n p - p) p v)) (axM Z f') else axBV (F_X10_wrong N m 2 (Int32.ofNat s) (axM Z f')) fun T => F_X10_number_122 N m (Int32.ofNat (q_val t (q_dgt t n p - p) p v)) T) ∧ MT f' m t n (q_dgt t n p) k pl ∧ MFr f f' m := by
  have h0 := hm.1
  intro c
  induction c with
  | zero =>
    intro p fu v f hp hfu h hv
    obtain ⟨fu, rfl⟩ : ∃ q, fu = q + 1 := ⟨fu - 1, by omega⟩
    have h6 := h.2.2.2.2.2.1
    unfold q_dgt
    rw [q_skp_n _ _ (by omega), Nat.sub_self]
    show ∃ f', F_X10_number_44b N (F_X10_number_44 N fu) m lo hi (Int32.ofNat s) (Int32.ofNat v) (axM Z f) = (if lo ≤ Int32.ofNat v ∧ Int32.ofNat v ≤ hi then F_X10_number_122 N m (Int32.ofNat v) (axM Z f') else axBV (F_X10_wrong N m 2 (Int32.ofNat s) (axM Z f')) fun T => F_X10_number_122 N m (Int32.ofNat v) T) ∧ _
    have hb : q_B t n p = -1 := if_neg (by omega)
    unfold F_X10_number_44b
    rw [m_gi h0, h.2.1, m_is h0, qm_byteAt hm h p (by omega), axB_s, hb, m_isD10, axB_s, if_neg (show ¬ q_isD (-1) = true by decide), if_pos rfl, m_in, axB_s]
    refine ⟨f, ?_, h, MFr.rf _ _⟩
    by_cases cv : lo ≤ Int32.ofNat v ∧ Int32.ofNat v ≤ hi
    · simp only [if_pos cv]
      rw [if_neg (show ¬ (1 : Int32) = 0 by decide)]
    · simp only [if_neg cv]
      rw [if_pos trivial, m_is h0]
  | succ c ih =>
    intro p fu v f hp hfu h hv
    obtain ⟨fu, rfl⟩ : ∃ q, fu = q + 1 := ⟨fu - 1, by omega⟩
    have h6 := h.2.2.2.2.2.1
    have hb : q_B t n p = t p := if_pos (by omega)
    unfold q_dgt
    by_cases cd : q_isD (t p) = true
    · obtain ⟨y, y1, y2, ey⟩ := q_isD_n cd
      have hs := q_skp_s (P := q_isD) (t := t) (show p < n by omega) cd
      have hle := (q_skp_b q_isD t (show p + 1 ≤ n by omega)).1
      rw [hs, show q_skp q_isD t n (p + 1) - p = (q_skp q_isD t n (p + 1) - (p + 1)) + 1 by omega]
      have ev : q_val t ((q_skp q_isD t n (p + 1) - (p + 1)) + 1) p v = q_val t (q_skp q_isD t n (p + 1) - (p + 1)) (p + 1) (min 100000 (10 * v + (y - 48))) := by
        show q_val t _ (p + 1) (min 100000 (10 * v + ((t p).toNatClampNeg - 48))) = _
        rw [ey, qi_tn (by omega)]
      rw [ev]
      obtain ⟨f2, e2, g2, fr2⟩ := ih (p + 1) fu (min 100000 (10 * v + (y - 48))) (ax2 f m 4 (Int32.ofNat (p + 1))) (by omega) (by omega) (h.at (by omega)) (by omega)
      unfold q_dgt at e2 g2
      refine ⟨f2, Eq.trans ?_ e2, g2, (MFr.w f _ (by omega)).tr fr2⟩
      show F_X10_number_44b N (F_X10_number_44 N fu) m lo hi (Int32.ofNat s) (Int32.ofNat v) (axM Z f) = _
      unfold F_X10_number_44b F_X10_number_91
      have ew : 10 * Int32.ofNat v + t p - 48 = Int32.ofNat (10 * v + (y - 48)) := by
        rw [ey, show (10 : Int32) * Int32.ofNat v = Int32.ofNat (10 * v) from qi_mul 10 v, qi_add, show Int32.ofNat (10 * v + y) - 48 = Int32.ofNat (10 * v + y - 48) from qi_sub (j := 48) (by omega), show 10 * v + y - 48 = 10 * v + (y - 48) by omega]
      rw [m_gi h0, h.2.1, m_is h0, qm_byteAt hm h p (by omega), axB_s, hb, m_isD10, axB_s, if_pos cd, if_neg (show ¬ (1 : Int32) = 0 by decide), m_gi h0, h.2.1, m_is h0, qm_byteAt hm h p (by omega), axB_s, hb, ew]
      by_cases c9 : 10 * v + (y - 48) ≤ 100000
      · rw [if_pos (show Int32.ofNat (10 * v + (y - 48)) ≤ 100000 from qi_ge (j := 100000) c9 (by omega)), Nat.min_eq_right c9, m_gi h0, h.2.1, m_pi h0, qi_s]
      · rw [if_neg (show ¬ Int32.ofNat (10 * v + (y - 48)) ≤ 100000 from qi_nge (j := 100000) (by omega) (by omega)), Nat.min_eq_left (by omega), m_gi h0, h.2.1, m_pi h0, qi_s]
        rfl
    · rw [q_skp_f (by omega) cd, Nat.sub_self]
      show ∃ f', F_X10_number_44b N (F_X10_number_44 N fu) m lo hi (Int32.ofNat s) (Int32.ofNat v) (axM Z f) = (if lo ≤ Int32.ofNat v ∧ Int32.ofNat v ≤ hi then F_X10_number_122 N m (Int32.ofNat v) (axM Z f') else axBV (F_X10_wrong N m 2 (Int32.ofNat s) (axM Z f')) fun T => F_X10_number_122 N m (Int32.ofNat v) T) ∧ _
      unfold F_X10_number_44b
      rw [m_gi h0, h.2.1, m_is h0, qm_byteAt hm h p (by omega), axB_s, hb, m_isD10, axB_s, if_neg cd, if_pos rfl, m_in, axB_s]
      refine ⟨f, ?_, h, MFr.rf _ _⟩
      by_cases cv : lo ≤ Int32.ofNat v ∧ Int32.ofNat v ≤ hi
      · simp only [if_pos cv]
        rw [if_neg (show ¬ (1 : Int32) = 0 by decide)]
      · simp only [if_neg cv]
        rw [if_pos trivial, m_is h0]
theorem qm_number (hN : 2000 < N) (hm : LMo Z m) (h : MT f m t n p k pl) (lo hi : Int32) : (k = 0 ∧ q_nok t n p lo hi → ∃ f', F_X10_number N m lo hi (axM Z f) = some (Int32.ofNat (q_num t n (q_bl t n p)), axM Z f') ∧ MT f' m t n (q_dgt t n (q_bl t n p)) 0 pl ∧ MFr f f' m) ∧ (¬ (k = 0 ∧ q_nok t n p lo hi) → ∃ f' q, F_X10_number N m lo hi (axM Z f) = some (0, axM Z f') ∧ MT f' m t n q (if k = 0 then q_nfk t n p else k) (if k = 0 then Int32.ofNat (q_bl t n p) else pl) ∧ MFr f f' m) := by
  have h0 := hm.1
  unfold F_X10_number q_nfk q_nok
  rw [m_gi h0, h.2.2.1]
  by_cases hk : k = 0
  · subst hk
    obtain ⟨f1, e1, g1, fr1⟩ := qm_blanks hN hm h
    have h6 := g1.2.2.2.2.2.1
    have h7 := g1.2.2.2.2.2.2
    rw [if_pos rfl, m_is h0, e1, axBV_s, m_gi h0, g1.2.1, m_gi h0, g1.2.1, m_is h0, qm_byteAt hm g1 _ (by omega), axB_s, m_isD10, axB_s]
    by_cases cd : q_isD (q_B t n (q_bl t n p)) = true
    · simp only [if_pos cd]
      rw [if_neg (show ¬ (1 : Int32) = 0 by decide)]
      obtain ⟨f2, e2, g2, fr2⟩ := qm_num_l (N := N) (s := q_bl t n p) (lo := lo) (hi := hi) hm (n - q_bl t n p) (q_bl t n p) N 0 f1 (by omega) (by omega) g1 (by omega)
      rw [show F_X10_number_44 N N m lo hi (Int32.ofNat (q_bl t n p)) 0 (axM Z f1) = _ from e2]
      refine ⟨fun z => ?_, fun z => ?_⟩
      · have z2 : lo ≤ Int32.ofNat (q_val t (q_dgt t n (q_bl t n p) - q_bl t n p) (q_bl t n p) 0) ∧ Int32.ofNat (q_val t (q_dgt t n (q_bl t n p) - q_bl t n p) (q_bl t n p) 0) ≤ hi := z.2.2
        rw [if_pos z2]
        unfold F_X10_number_122
        rw [m_gi h0, g2.2.2.1, if_pos rfl]
        exact ⟨f2, rfl, g2, fr1.tr fr2⟩
      · have cv : ¬ (lo ≤ Int32.ofNat (q_val t (q_dgt t n (q_bl t n p) - q_bl t n p) (q_bl t n p) 0) ∧ Int32.ofNat (q_val t (q_dgt t n (q_bl t n p) - q_bl t n p) (q_bl t n p) 0) ≤ hi) := fun q => z ⟨trivial, cd, q⟩
        obtain ⟨f3, e3, g3, fr3⟩ := qm_wrong (N := N) h0 g2 2 (Int32.ofNat (q_bl t n p))
        rw [if_neg cv, e3, axBV_s]
        have g3k := g3.2.2.1
        rw [if_pos rfl] at g3k
        unfold F_X10_number_122
        rw [m_gi h0, g3k, if_neg (by decide)]
        exact ⟨f3, _, rfl, g3, fr1.tr (fr2.tr fr3)⟩
    · simp only [if_neg cd]
      refine ⟨fun z => absurd z.2.1 cd, fun _ => ?_⟩
      obtain ⟨f2, e2, g2, fr2⟩ := qm_wrong (N := N) h0 g1 1 (Int32.ofNat (q_bl t n p))
      rw [if_pos trivial, m_gi h0, g1.2.1, m_is h0, e2, axBV_s]
      obtain ⟨f3, e3, g3, fr3⟩ := qm_num_l (N := N) (s := q_bl t n p) (lo := lo) (hi := hi) hm (n - q_bl t n p) (q_bl t n p) N 0 f2 (by omega) (by omega) g2 (by omega)
      rw [show F_X10_number_44 N N m lo hi (Int32.ofNat (q_bl t n p)) 0 (axM Z f2) = _ from e3]
      have g3k := g3.2.2.1
      rw [if_pos rfl] at g3k
      unfold F_X10_number_122
      by_cases cv : lo ≤ Int32.ofNat (q_val t (q_dgt t n (q_bl t n p) - q_bl t n p) (q_bl t n p) 0) ∧ Int32.ofNat (q_val t (q_dgt t n (q_bl t n p) - q_bl t n p) (q_bl t n p) 0) ≤ hi
      · rw [if_pos cv, m_gi h0, g3k, if_neg (by decide)]
        exact ⟨f3, _, rfl, g3, fr1.tr (fr2.tr fr3)⟩
      · obtain ⟨f4, e4, g4, fr4⟩ := qm_wrong (N := N) h0 g3 2 (Int32.ofNat (q_bl t n p))
        have g4k := g4.2.2.1
        rw [if_pos rfl, if_neg (show ¬ (1 : Int32) = 0 by decide)] at g4k
        rw [if_neg cv, e4, axBV_s, m_gi h0, g4k, if_neg (by decide)]
        refine ⟨f4, q_dgt t n (q_bl t n p), rfl, ?_, fr1.tr (fr2.tr (fr3.tr fr4))⟩
        have g5 := g4
        simp only [↓reduceIte, show ¬ (1 : Int32) = 0 by decide] at g5 ⊢
        exact g5
  · simp only [if_neg hk]
    exact ⟨fun z => absurd z.1 hk, fun _ => ⟨f, p, rfl, h, MFr.rf _ _⟩⟩
end
