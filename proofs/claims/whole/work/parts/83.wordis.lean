/-! texts: which word stands there -/
def q_E (c : Nat → Nat) : Nat → Nat
  | 0 => 0
  | n + 1 => 27 * q_E c n + c n
theorem q_E_inj {c d : Nat → Nat} : ∀ (L M : Nat), (∀ j, j < L → 1 ≤ c j ∧ c j ≤ 26) → (∀ j, j < M → 1 ≤ d j ∧ d j ≤ 26) → q_E c L = q_E d M → L = M ∧ ∀ j, j < L → c j = d j
  | 0, 0, _, _, _ => ⟨rfl, fun j hj => absurd hj (by omega)⟩
  | 0, M + 1, _, hd, h => by
    have := hd M (by omega)
    have h : 0 = 27 * q_E d M + d M := h
    omega
  | L + 1, 0, hc, _, h => by
    have := hc L (by omega)
    have h : 27 * q_E c L + c L = 0 := h
    omega
  | L + 1, M + 1, hc, hd, h => by
    have h1 := hc L (by omega)
    have h2 := hd M (by omega)
    have h : 27 * q_E c L + c L = 27 * q_E d M + d M := h
    obtain ⟨e, g⟩ := q_E_inj L M (fun j hj => hc j (by omega)) (fun j hj => hd j (by omega)) (by omega)
    subst e
    refine ⟨rfl, fun j hj => ?_⟩
    by_cases ej : j = L
    · rw [ej]
      omega
    · exact g j (by omega)
theorem q_E_lt {c : Nat → Nat} : ∀ n, (∀ j, j < n → c j ≤ 26) → q_E c n < 27 ^ n
  | 0, _ => by
    show (0 : Nat) < 27 ^ 0
    decide
  | n + 1, h => by
    have := q_E_lt n (fun j hj => h j (by omega))
    have := h n (by omega)
    show 27 * q_E c n + c n < 27 ^ (n + 1)
    rw [Nat.pow_succ]
    omega
theorem q_E_c {c d : Nat → Nat} : ∀ n, (∀ j, j < n → c j = d j) → q_E c n = q_E d n
  | 0, _ => rfl
  | n + 1, h => by
    show 27 * q_E c n + c n = 27 * q_E d n + d n
    rw [q_E_c n (fun j hj => h j (by omega)), h n (by omega)]
def q_cs (cs : List Nat) (j : Nat) : Nat := cs.getD j 0
/-- the word from s to e is the one with these letters -/
def q_isw (t : QR) (s e : Nat) (cs : List Nat) : Bool := decide (e - s = cs.length) && q_allb (fun j => decide (t (s + j) = Int32.ofNat (96 + q_cs cs j))) cs.length 0
theorem q_isw_iff (t : QR) (s e : Nat) (cs : List Nat) : q_isw t s e cs = true ↔ (e - s = cs.length ∧ ∀ j, j < cs.length → t (s + j) = Int32.ofNat (96 + q_cs cs j)) := by
  unfold q_isw
  rw [Bool.and_eq_true, decide_eq_true_eq, q_allb_iff]
  exact ⟨fun h => ⟨h.1, fun j hj => of_decide_eq_true (h.2 j (by omega) (by omega))⟩, fun h => ⟨h.1, fun j _ hj => decide_eq_true (h.2 j (by omega))⟩⟩
/-- a word's letters -/
def q_let (cs : List Nat) : Prop := cs.length ≤ 7 ∧ ∀ j, j < cs.length → 1 ≤ q_cs cs j ∧ q_cs cs j ≤ 26
/-- the texts lie where they are looked for -/
def TXz (Z : AxS) : Prop := ∀ i, i < 26 → ∃ j, axL Z (axTx Z i) = some (6, j) ∧ ax_txt j = ax_txt i
def q_txt (i : Nat) (cs : List Nat) : Prop := i < 26 ∧ (ax_txt i).length = cs.length ∧ ∀ j, j < cs.length → (ax_txt i).getD j 0 = Int32.ofNat (96 + q_cs cs j)
theorem q_shr0 : ∀ n, n < 100 → Int32.ofNat n >>> ((0 : Int32) &&& 31) = Int32.ofNat n := by decide +kernel
section
variable {Z : AxS} {u m N n p : Nat} {f : Nat → Nat → Int32} {t : QR} {k pl : Int32}
theorem qc_word_l (hu : LTa Z u) : ∀ (c p fu : Nat) (f : Nat → Nat → Int32), p + c = n → c < fu → CT f u t n p k pl → ∃ f', F_X7_word_13 N fu u (axM Z f) = some (axM Z f') ∧ CT f' u t n (q_wrl t n p) k pl ∧ f' u 6 = f u 6 ∧ CFr f f' u := by
  obtain ⟨h0, h1, h2⟩ := hu
  intro c
  induction c with
  | zero =>
    intro p fu f hp hfu h
    obtain ⟨fu, rfl⟩ : ∃ q, fu = q + 1 := ⟨fu - 1, by omega⟩
    show ∃ f', F_X7_word_13b N (F_X7_word_13 N fu) u (axM Z f) = _ ∧ _
    have h' := h
    obtain ⟨c1, c2, c3, c4, c5, c6, c7⟩ := h'
    unfold F_X7_word_13b q_wrl
    rw [m_gi h0, c2, m_gi h0, c1, if_pos (qi_ge (by omega) (by omega)), q_skp_n _ _ (by omega)]
    exact ⟨f, rfl, h, rfl, CFr.rf _ _⟩
  | succ c ih =>
    intro p fu f hp hfu h
    obtain ⟨fu, rfl⟩ : ∃ q, fu = q + 1 := ⟨fu - 1, by omega⟩
    show ∃ f', F_X7_word_13b N (F_X7_word_13 N fu) u (axM Z f) = _ ∧ _
    have h' := h
    obtain ⟨c1, c2, c3, c4, c5, c6, c7⟩ := h'
    unfold F_X7_word_13b q_wrl
    rw [m_gi h0, c2, m_gi h0, c1, if_neg (qi_nge (by omega) (by omega)), m_gr h0 h1, m_gi h0, c2, m_atn N h2 (show p < 600 by omega) (by omega), axB_s, c5 p (by omega), m_gr h0 h1, m_gi h0, c2, m_atn N h2 (show p < 600 by omega) (by omega), axB_s, c5 p (by omega), m_gi h0, c2, m_pi h0, qi_s, q_rg rfl]
    by_cases cd : 97 ≤ t p ∧ t p ≤ 122
    · rw [if_pos cd, q_skp_s (by omega) (show q_isL (t p) = true from decide_eq_true cd)]
      obtain ⟨f2, e2, g2, g6, fr2⟩ := ih (p + 1) fu (ax2 f u 3 (Int32.ofNat (p + 1))) (by omega) (by omega) (h.at (by omega))
      exact ⟨f2, e2, g2, by rw [g6, ax2_j _ _ _ _ _ (by omega)], (CFr.w f _ (by omega)).tr fr2⟩
    · rw [if_neg cd, q_skp_f (by omega) (show ¬ q_isL (t p) = true from fun z => cd (of_decide_eq_true z))]
      exact ⟨f, rfl, h, rfl, CFr.rf _ _⟩
theorem qc_word (hN : 2000 < N) (hu : LTa Z u) (h : CT f u t n p k pl) : ∃ f', F_X7_word N u (axM Z f) = some (axM Z f') ∧ CT f' u t n (q_wrl t n (q_bl t n p)) k pl ∧ f' u 6 = Int32.ofNat (q_bl t n p) ∧ CFr f f' u := by
  have h0 := hu.1
  obtain ⟨f1, e1, g1, fr1⟩ := qc_sign hN hu h
  have c6 := g1.2.2.2.2.2.1
  have c7 := g1.2.2.2.2.2.2
  unfold F_X7_word
  rw [m_is h0, e1, axB_s, m_gi h0, g1.2.1, m_pi h0]
  obtain ⟨f2, e2, g2, g6, fr2⟩ := qc_word_l (N := N) hu (n - q_bl t n p) (q_bl t n p) N (ax2 f1 u 6 (Int32.ofNat (q_bl t n p))) (by omega) (by omega) (g1.ws _ (Or.inl rfl))
  exact ⟨f2, e2, g2, by rw [g6, ax2_k], fr1.tr ((CFr.w f1 _ (by omega)).tr fr2)⟩
theorem qc_isWord (hN : 2000 < N) (hu : LTa Z u) (hT : TXz Z) {i s : Nat} {cs : List Nat} (hi : q_txt i cs) (h : CT f u t n p k pl) (h6 : f u 6 = Int32.ofNat s) (hs : s ≤ p) : F_X7_isWord N u (axTx Z i) (axM Z f) = some (if q_isw t s p cs = true then 1 else 0, axM Z f) := by
  obtain ⟨h0, h1, h2⟩ := hu
  obtain ⟨i1, i2, i3⟩ := hi
  obtain ⟨j, j1, j2⟩ := hT i i1
  have hl := ax_tln i i1
  rw [i2] at hl
  obtain ⟨c1, c2, c3, c4, c5, c6, c7⟩ := h
  have eL : ∀ g, F_J0_length_8abf5 N (axTx Z i) (axM Z g) = some (Int32.ofNat cs.length, axM Z g) := fun g => by
    unfold F_J0_length_8abf5
    rw [axM_L, j1]
    show some (Int32.ofNat (ax_txt j).length >>> ((0 : Int32) &&& 31), axM Z g) = _
    rw [j2, i2, q_shr0 _ hl]
  have eC : ∀ v, v < cs.length → F_J0_charAt_5068e N (axTx Z i) (Int32.ofNat v) (axM Z f) = some (Int32.ofNat (96 + q_cs cs v), axM Z f) := fun v hv => by
    unfold F_J0_charAt_5068e
    rw [axM_L, j1]
    show (if Int32.ofNat v < 0 ∨ (ax_txt j).length ≤ (Int32.ofNat v).toNatClampNeg then none else some ((ax_txt j).getD (Int32.ofNat v).toNatClampNeg 0, axM Z f)) = _
    rw [qi_tn (by omega), j2, i2, if_neg (fun z => z.elim (qi_nn (by omega)) (by omega)), i3 v hv]
  have loop : p - s = cs.length → ∀ (c v fu : Nat), v + c = cs.length → c < fu → F_X7_isWord_20 N fu u (axTx Z i) (Int32.ofNat v) (axM Z f) = some (if q_allb (fun j => decide (t (s + j) = Int32.ofNat (96 + q_cs cs j))) c v = true then 1 else 0, axM Z f) := by
    intro hps c
    induction c with
    | zero =>
      intro v fu hv hfu
      obtain ⟨fu, rfl⟩ : ∃ q, fu = q + 1 := ⟨fu - 1, by omega⟩
      show F_X7_isWord_20b N (F_X7_isWord_20 N fu) u (axTx Z i) (Int32.ofNat v) (axM Z f) = _
      unfold F_X7_isWord_20b
      rw [eL, axB_s, if_pos (qi_ge (by omega) (by omega)), m_rz1]
      rfl
    | succ c ih =>
      intro v fu hv hfu
      obtain ⟨fu, rfl⟩ : ∃ q, fu = q + 1 := ⟨fu - 1, by omega⟩
      show F_X7_isWord_20b N (F_X7_isWord_20 N fu) u (axTx Z i) (Int32.ofNat v) (axM Z f) = _
      unfold F_X7_isWord_20b
      rw [eL, axB_s, if_neg (qi_nge (by omega) (by omega)), m_gr h0 h1, m_gi h0, h6, qi_add, m_atn N h2 (show s + v < 600 by omega) (by omega), axB_s, c5 (s + v) (by omega), eC v (by omega), axB_s, qi_s, ih (v + 1) fu (by omega) (by omega)]
      show _ = some (if (if decide (t (s + v) = Int32.ofNat (96 + q_cs cs v)) = true then q_allb (fun j => decide (t (s + j) = Int32.ofNat (96 + q_cs cs j))) c (v + 1) else false) = true then 1 else 0, axM Z f)
      by_cases e : t (s + v) = Int32.ofNat (96 + q_cs cs v)
      · rw [if_pos e, if_pos (decide_eq_true e)]
      · rw [if_neg e, if_neg (show ¬ decide (t (s + v) = Int32.ofNat (96 + q_cs cs v)) = true from fun z => e (of_decide_eq_true z)), m_rz0]
        rfl
  unfold F_X7_isWord q_isw
  rw [m_gi h0, c2, m_gi h0, h6, eL, axB_s, qi_sub hs]
  by_cases e : p - s = cs.length
  · rw [if_pos (by rw [e]), show F_X7_isWord_20 N N u (axTx Z i) 0 (axM Z f) = _ from loop e cs.length 0 N (by omega) (by omega), decide_eq_true e, Bool.true_and]
  · rw [if_neg (qi_ne e (by omega) (by omega)), m_rz0, decide_eq_false e, Bool.false_and]
    rfl
-- the model
def q_ltr (t : QR) (s j : Nat) : Nat := (t (s + j)).toNatClampNeg - 96
theorem qm_wordHere_l (hm : LMo Z m) {s : Nat} (h : MT f m t n s k pl) : ∀ (c v fu : Nat), s + v + c = q_wrl t n s → c < fu → F_X10_wordHere_8 N fu m (Int64.ofNat (q_E (q_ltr t s) (min v 7))) (Int32.ofNat v) (axM Z f) = some (if q_wrl t n s - s ≤ 7 then Int64.ofNat (q_E (q_ltr t s) (q_wrl t n s - s)) else -1, axM Z f) := by
  have h0 := hm.1
  have h6 := h.2.2.2.2.2.1
  have h7 := h.2.2.2.2.2.2
  obtain ⟨b1, b2, b3, b4⟩ := q_skp_b q_isL t h7
  change s ≤ q_wrl t n s at b1
  change q_wrl t n s ≤ n at b2
  change q_wrl t n s < n → ¬ q_isL (t (q_wrl t n s)) = true at b3
  change ∀ j, s ≤ j → j < q_wrl t n s → q_isL (t j) = true at b4
  intro c
  induction c with
  | zero =>
    intro v fu hv hfu
    obtain ⟨fu, rfl⟩ : ∃ q, fu = q + 1 := ⟨fu - 1, by omega⟩
    show F_X10_wordHere_8b N (F_X10_wordHere_8 N fu) m (Int64.ofNat (q_E (q_ltr t s) (min v 7))) (Int32.ofNat v) (axM Z f) = _
    have hb : ¬ q_isL (q_B t n (s + v)) = true := by
      unfold q_B
      by_cases c9 : s + v < n
      · rw [if_pos c9, show s + v = q_wrl t n s by omega]
        exact b3 (by omega)
      · rw [if_neg c9]
        decide
    unfold F_X10_wordHere_8b
    rw [m_gi h0, h.2.1, qi_add, m_is h0, qm_byteAt hm h _ (by omega), axB_s, m_isL10, axB_s, if_neg hb, if_pos rfl, show q_wrl t n s - s = v by omega]
    by_cases c7 : v ≤ 7
    · rw [if_pos (show Int32.ofNat v ≤ 7 from qi_ge (j := 7) c7 (by omega)), if_pos c7, Nat.min_eq_left c7]
    · rw [if_neg (show ¬ Int32.ofNat v ≤ 7 from qi_nge (j := 7) (by omega) (by omega)), if_neg c7]
  | succ c ih =>
    intro v fu hv hfu
    obtain ⟨fu, rfl⟩ : ∃ q, fu = q + 1 := ⟨fu - 1, by omega⟩
    show F_X10_wordHere_8b N (F_X10_wordHere_8 N fu) m (Int64.ofNat (q_E (q_ltr t s) (min v 7))) (Int32.ofNat v) (axM Z f) = _
    have hb : q_B t n (s + v) = t (s + v) := if_pos (by omega)
    have hL := b4 (s + v) (by omega) (by omega)
    obtain ⟨y, y1, y2, ey⟩ := q_isL_n hL
    unfold F_X10_wordHere_8b F_X10_wordHere_57
    rw [m_gi h0, h.2.1, qi_add, m_is h0, qm_byteAt hm h _ (by omega), axB_s, m_isL10, axB_s, hb, if_pos hL, if_neg (show ¬ (1 : Int32) = 0 by decide)]
    by_cases c7 : 7 ≤ v
    · rw [if_pos (show (7 : Int32) ≤ Int32.ofNat v from qi_ge (i := 7) c7 (by omega)), qi_s, Nat.min_eq_right c7]
      have := ih (v + 1) fu (by omega) (by omega)
      rw [Nat.min_eq_right (show 7 ≤ v + 1 by omega)] at this
      exact this
    · rw [if_neg (show ¬ (7 : Int32) ≤ Int32.ofNat v from qi_nge (i := 7) (by omega) (by omega)), m_gi h0, h.2.1, qi_add, m_is h0, qm_byteAt hm h _ (by omega), axB_s, hb, ey, qj_of (by omega), qi_s, Nat.min_eq_left (show v ≤ 7 by omega)]
      have := ih (v + 1) fu (by omega) (by omega)
      rw [Nat.min_eq_left (show v + 1 ≤ 7 by omega)] at this
      rw [← this]
      congr 1
      show 27 * Int64.ofNat (q_E (q_ltr t s) v) + Int64.ofNat y - 97 + 1 = Int64.ofNat (27 * q_E (q_ltr t s) v + q_ltr t s v)
      have el : q_ltr t s v = y - 96 := by
        unfold q_ltr
        rw [ey, qi_tn (by omega)]
      rw [el, show (27 : Int64) = Int64.ofNat 27 from rfl, ← Int64.ofNat_mul, ← Int64.ofNat_add, show (97 : Int64) = Int64.ofNat 97 from rfl, ← Int64.ofNat_sub _ _ (by omega), show (1 : Int64) = Int64.ofNat 1 from rfl, ← Int64.ofNat_add]
      congr 1
      omega
theorem qm_isWord (hN : 2000 < N) (hm : LMo Z m) (h : MT f m t n p 0 pl) {a1 a2 a3 a4 a5 a6 a7 : Int32} {cs : List Nat} (hcs : ∀ S, F_X10_seven N a1 a2 a3 a4 a5 a6 a7 S = some (Int64.ofNat (q_E (q_cs cs) cs.length), S)) (hl : q_let cs) : ∃ f', F_X10_isWord N m a1 a2 a3 a4 a5 a6 a7 (axM Z f) = some (if q_isw t (q_bl t n p) (q_wrl t n (q_bl t n p)) cs = true then 1 else 0, axM Z f') ∧ MT f' m t n (q_bl t n p) 0 pl ∧ MFr f f' m := by
  have h0 := hm.1
  obtain ⟨f1, e1, g1, fr1⟩ := qm_blanks hN hm h
  have h6 := g1.2.2.2.2.2.1
  have h7 := g1.2.2.2.2.2.2
  obtain ⟨b1, b2, b3, b4⟩ := q_skp_b q_isL t h7
  change q_bl t n p ≤ q_wrl t n (q_bl t n p) at b1
  change q_wrl t n (q_bl t n p) ≤ n at b2
  change ∀ j, q_bl t n p ≤ j → j < q_wrl t n (q_bl t n p) → q_isL (t j) = true at b4
  have hw := qm_wordHere_l (N := N) hm g1 (q_wrl t n (q_bl t n p) - q_bl t n p) 0 N (by omega) (by omega)
  have hw' : F_X10_wordHere_8 N N m 0 0 (axM Z f1) = _ := hw
  unfold F_X10_isWord F_X10_wordHere
  rw [m_gi h0, h.2.2.1, if_pos rfl, m_is h0, m_is h0, e1, axBV_s, hw', axB_s, hcs, axB_s]
  refine ⟨f1, ?_, g1, fr1⟩
  have hlt : ∀ j, j < q_wrl t n (q_bl t n p) - q_bl t n p → 1 ≤ q_ltr t (q_bl t n p) j ∧ q_ltr t (q_bl t n p) j ≤ 26 ∧ t (q_bl t n p + j) = Int32.ofNat (96 + q_ltr t (q_bl t n p) j) := fun j hj => by
    obtain ⟨y, y1, y2, ey⟩ := q_isL_n (b4 (q_bl t n p + j) (by omega) (by omega))
    unfold q_ltr
    rw [ey, qi_tn (by omega)]
    exact ⟨by omega, by omega, by congr 1; omega⟩
  have hE := q_E_lt (c := q_cs cs) cs.length (fun j hj => (hl.2 j hj).2)
  have hE2 : 27 ^ cs.length ≤ 27 ^ 7 := Nat.pow_le_pow_right (by omega) hl.1
  have h27 : (27 : Nat) ^ 7 = 10460353203 := by decide
  have cmp0 : ∀ x y : Int64, (lg_cmp x y = 0) = (x = y) := fun x y => by
    unfold lg_cmp
    refine propext ?_
    by_cases c1 : x > y
    · rw [if_pos c1]
      refine ⟨fun z => absurd z (by decide), fun z => ?_⟩
      rw [z] at c1
      exact absurd c1 (Int64.lt_irrefl)
    · rw [if_neg c1]
      by_cases c2 : x = y
      · rw [if_pos c2]
        exact ⟨fun _ => c2, fun _ => rfl⟩
      · rw [if_neg c2]
        exact ⟨fun z => absurd z (by decide), fun z => absurd z c2⟩
  have key : ((if q_wrl t n (q_bl t n p) - q_bl t n p ≤ 7 then Int64.ofNat (q_E (q_ltr t (q_bl t n p)) (q_wrl t n (q_bl t n p) - q_bl t n p)) else -1) = Int64.ofNat (q_E (q_cs cs) cs.length)) ↔ q_isw t (q_bl t n p) (q_wrl t n (q_bl t n p)) cs = true := by
    rw [q_isw_iff]
    by_cases c7 : q_wrl t n (q_bl t n p) - q_bl t n p ≤ 7
    · have hF := q_E_lt (c := q_ltr t (q_bl t n p)) (q_wrl t n (q_bl t n p) - q_bl t n p) (fun j hj => (hlt j hj).2.1)
      have hF2 : 27 ^ (q_wrl t n (q_bl t n p) - q_bl t n p) ≤ 27 ^ 7 := Nat.pow_le_pow_right (by omega) c7
      rw [if_pos c7, qj_eq (by omega) (by omega)]
      constructor
      · intro e
        obtain ⟨e1, e2⟩ := q_E_inj _ _ (fun j hj => ⟨(hlt j hj).1, (hlt j hj).2.1⟩) hl.2 e
        exact ⟨e1, fun j hj => by rw [(hlt j (by omega)).2.2, e2 j (by omega)]⟩
      · intro ⟨e1, e2⟩
        rw [e1]
        refine q_E_c _ (fun j hj => ?_)
        have := e2 j hj
        have h3 := hl.2 j hj
        rw [(hlt j (by omega)).2.2, qi_eq (by have := (hlt j (by omega)).2.1; omega) (by omega)] at this
        omega
    · rw [if_neg c7]
      refine ⟨fun e => ?_, fun e => absurd e.1 (by have := hl.1; omega)⟩
      have h9 := congrArg Int64.toInt e
      rw [qj_i (by omega)] at h9
      have h8 : (-1 : Int64).toInt = -1 := by decide
      omega
  by_cases c : q_isw t (q_bl t n p) (q_wrl t n (q_bl t n p)) cs = true
  · rw [if_pos c, if_pos (by rw [cmp0]; exact key.mpr c), m_rz1]
  · rw [if_neg c, if_neg (by rw [cmp0]; exact fun z => c (key.mp z)), m_rz0]
theorem qm_skip_l (hm : LMo Z m) : ∀ (c p fu : Nat) (f : Nat → Nat → Int32), p + c = n → c < fu → MT f m t n p k pl → ∃ f', F_X10_skipWord_0 N fu m (axM Z f) = some (axM Z f') ∧ MT f' m t n (q_wrl t n p) k pl ∧ MFr f f' m := by
  have h0 := hm.1
  intro c
  induction c with
  | zero =>
    intro p fu f hp hfu h
    obtain ⟨fu, rfl⟩ : ∃ q, fu = q + 1 := ⟨fu - 1, by omega⟩
    show ∃ f', F_X10_skipWord_0b N (F_X10_skipWord_0 N fu) m (axM Z f) = _ ∧ _
    have h6 := h.2.2.2.2.2.1
    unfold F_X10_skipWord_0b q_wrl
    have hb : q_B t n p = -1 := if_neg (by omega)
    rw [m_gi h0, h.2.1, m_is h0, qm_byteAt hm h p (by omega), axB_s, m_isL10, axB_s, hb, if_neg (show ¬ q_isL (-1) = true by decide), if_pos rfl, q_skp_n _ _ (by omega)]
    exact ⟨f, rfl, h, MFr.rf _ _⟩
  | succ c ih =>
    intro p fu f hp hfu h
    obtain ⟨fu, rfl⟩ : ∃ q, fu = q + 1 := ⟨fu - 1, by omega⟩
    show ∃ f', F_X10_skipWord_0b N (F_X10_skipWord_0 N fu) m (axM Z f) = _ ∧ _
    have h6 := h.2.2.2.2.2.1
    unfold F_X10_skipWord_0b q_wrl
    have hb : q_B t n p = t p := if_pos (by omega)
    rw [m_gi h0, h.2.1, m_is h0, qm_byteAt hm h p (by omega), axB_s, m_isL10, axB_s, hb]
    by_cases e : q_isL (t p) = true
    · rw [if_pos e, if_neg (show ¬ (1 : Int32) = 0 by decide), m_gi h0, h.2.1, m_pi h0, qi_s, q_skp_s (by omega) e]
      obtain ⟨f2, e2, g2, fr2⟩ := ih (p + 1) fu (ax2 f m 4 (Int32.ofNat (p + 1))) (by omega) (by omega) (h.at (by omega))
      exact ⟨f2, e2, g2, (MFr.w f _ (by omega)).tr fr2⟩
    · rw [if_neg e, if_pos rfl, q_skp_f (by omega) e]
      exact ⟨f, rfl, h, MFr.rf _ _⟩
theorem qm_skip (hN : 2000 < N) (hm : LMo Z m) (h : MT f m t n p k pl) : ∃ f', F_X10_skipWord N m (axM Z f) = some (axM Z f') ∧ MT f' m t n (q_wrl t n p) k pl ∧ MFr f f' m := qm_skip_l hm (n - p) p N f (by have := h.2.2.2.2.2.2; omega) (by have := h.2.2.2.2.2.1; omega) h
end
/-! the words -/
def q_owe : List Nat := [15, 23, 5]
def q_rate : List Nat := [18, 1, 20, 5]
def q_chest : List Nat := [3, 8, 5, 19, 20]
def q_harvest : List Nat := [8, 1, 18, 22, 5, 19, 20]
def q_villa : List Nat := [22, 9, 12, 12, 1, 7, 5]
def q_cellw : List Nat := [3, 5, 12, 12]
def q_monkw : List Nat := [13, 15, 14, 11]
def q_heirw : List Nat := [8, 5, 9, 18]
def q_least : List Nat := [12, 5, 1, 19, 20]
def q_mostw : List Nat := [13, 15, 19, 20]
def q_asksw : List Nat := [1, 19, 11, 19]
def q_paid : List Nat := [16, 1, 9, 4]
def q_nightw : List Nat := [14, 9, 7, 8, 20]
def q_quietw : List Nat := [17, 21, 9, 5, 20]
def q_wax : List Nat := [23, 1, 24]
def q_storm : List Nat := [19, 20, 15, 18, 13]
def q_payw : List Nat := [16, 1, 25]
def q_almsw : List Nat := [1, 12, 13, 19]
def q_recw : List Nat := [18, 5, 3, 5, 9, 16, 20]
def q_swapw : List Nat := [19, 23, 1, 16]
def q_again : List Nat := [1, 7, 1, 9, 14]
theorem q_lets : ∀ cs ∈ [q_owe, q_rate, q_chest, q_harvest, q_villa, q_cellw, q_monkw, q_heirw, q_least, q_mostw, q_asksw, q_paid, q_nightw, q_quietw, q_wax, q_storm, q_payw, q_almsw, q_recw, q_swapw, q_again], cs.length ≤ 7 ∧ ∀ j, j < cs.length → 1 ≤ q_cs cs j ∧ q_cs cs j ≤ 26 := by decide +kernel
