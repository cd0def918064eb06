/-! fits: the class's search -/
abbrev QX : Type := Int32 × Int32 × Int32
def q_fX1 (X : QX) (o rt : Int32) : QX := (X.1 + 1, if X.1 = 0 then o else X.2.1, if X.1 = 0 then rt else X.2.2)
def q_fA1 (A : QF) (n : Nat → Nat) : QF := fun i v => if v = n i then A i v + 1 else A i v
def q_fi (R : Nat → Nat → Bool) (n : Nat → Nat → Nat → Nat) (o : Nat) : Nat → Nat → QX × QF × Bool → QX × QF × Bool
  | 0, _, st => st
  | k + 1, rt, st => q_fi R n o k (rt + 1) (if R o rt = true then (q_fX1 st.1 (Int32.ofNat o) (Int32.ofNat rt), q_fA1 st.2.1 (n o rt), true) else st)
def q_fo (R : Nat → Nat → Bool) (n : Nat → Nat → Nat → Nat) : Nat → Nat → QX × QF × Int32 → QX × QF × Int32
  | 0, _, st => st
  | k + 1, o, st => q_fo R n k (o + 1) ((q_fi R n o 21 0 (st.1, st.2.1, false)).1, (q_fi R n o 21 0 (st.1, st.2.1, false)).2.1, if (q_fi R n o 21 0 (st.1, st.2.1, false)).2.2 = true then st.2.2 + 1 else st.2.2)
def q_mxA (A : QF) (i : Nat) : Nat → Nat → Int32 → Int32
  | 0, _, x => x
  | k + 1, v, x => q_mxA A i k (v + 1) (q_max x (A i v))
def q_chs (β : QR) (A : QF) : Nat → Nat → Int32 × Int32 → Int32 × Int32
  | 0, _, z => z
  | k + 1, i, z => q_chs β A k (i + 1) (if β i = -1 then (if z.1 = -1 then (Int32.ofNat i, q_mxA A i 1000 0 0) else if z.2 ≤ q_mxA A i 1000 0 0 then z else (Int32.ofNat i, q_mxA A i 1000 0 0)) else z)
def q_fR (ψ : QF) (l : QL) (β : QR) (o rt : Nat) : Bool := q_right β (q_fs ψ l (Int32.ofNat o) (Int32.ofNat rt))
def q_fn (ψ : QF) (l : QL) (o rt i : Nat) : Nat := (q_fs ψ l (Int32.ofNat o) (Int32.ofNat rt) i).toNatClampNeg
theorem q_fn_n (ψ : QF) (l : QL) (o rt i : Nat) : q_fn ψ l o rt i ≤ 999 ∧ q_fs ψ l (Int32.ofNat o) (Int32.ofNat rt) i = Int32.ofNat (q_fn ψ l o rt i) := by
  obtain ⟨n, hn, e⟩ := q_fs_n ψ l (Int32.ofNat o) (Int32.ofNat rt) i
  unfold q_fn
  rw [e, qi_tn (by omega)]
  exact ⟨hn, rfl⟩
def q_fall (ψ : QF) (l : QL) (β : QR) : QX × QF × Int32 := q_fo (q_fR ψ l β) (q_fn ψ l) 200 0 ((0, -1, -1), fun _ _ => 0, 0)
def q_fch (ψ : QF) (l : QL) (β : QR) : Int32 × Int32 := q_chs β (q_fall ψ l β).2.1 60 0 (-1, -1)
/-- what the class knows of them -/
def fitK (f : Nat → Nat → Int32) (b : Nat) (ψ : QF) (l : QL) (β : QR) : Prop := f (b + 88) 1 = (q_fall ψ l β).1.1 ∧ f (b + 88) 2 = (q_fall ψ l β).1.2.1 ∧ f (b + 88) 3 = (q_fall ψ l β).1.2.2 ∧ f (b + 88) 4 = (q_fall ψ l β).2.2 ∧ f (b + 88) 5 = (q_fch ψ l β).1 ∧ f (b + 88) 6 = (q_fch ψ l β).2
def fitC (f : Nat → Nat → Int32) (b : Nat) (ψ : QF) (l : QL) (β : QR) : Prop := f (b + 88) 0 = 0 ∨ (f (b + 88) 0 = 1 ∧ fitK f b ψ l β)
/-- how the search stands -/
def fitS (f : Nat → Nat → Int32) (b : Nat) (X : QX) (A : QF) (ow : Int32) : Prop := f (b + 88) 1 = X.1 ∧ f (b + 88) 2 = X.2.1 ∧ f (b + 88) 3 = X.2.2 ∧ f (b + 88) 4 = ow ∧ ∀ i, i < 60 → ∀ v, v < 1000 → f (b + 91 + i) v = A i v
theorem fitS.e {f g : Nat → Nat → Int32} {b : Nat} {X : QX} {A : QF} {ow : Int32} (h : fitS f b X A ow) (h1 : g (b + 88) = f (b + 88)) (h2 : ∀ i, i < 60 → g (b + 91 + i) = f (b + 91 + i)) : fitS g b X A ow := by
  obtain ⟨a1, a2, a3, a4, a5⟩ := h
  exact ⟨by rw [h1, a1], by rw [h1, a2], by rw [h1, a3], by rw [h1, a4], fun i hi v hv => by rw [h2 i hi, a5 i hi v hv]⟩
section
variable {Z : AxS} {b m fa sf la sl bo sb N B : Nat} {ψ : QF} {l : QL} {r ρ : QR} {f f0 : Nat → Nat → Int32}
theorem qc_fclear33 (hC : LCl Z b fa sf la sl bo sb) {j : Nat} (hj : j < 60) (K : Nat → Int32 → AxS → Option AxS) : ∀ (n v fu : Nat) (f : Nat → Nat → Int32), v + n = 1000 → n < fu → ∃ f', F_X2_clear_33 N K fu (b + 88) (Int32.ofNat j) (Int32.ofNat v) (axM Z f) = K (b + 88) (Int32.ofNat (j + 1)) (axM Z f') ∧ (∀ w, w < 1000 → f' (b + 91 + j) w = if v ≤ w then 0 else f (b + 91 + j) w) ∧ ∀ x, x ≠ b + 91 + j → f' x = f x := by
  obtain ⟨⟨k1, k2⟩, -, ⟨k5, k6⟩, k7⟩ := hC.fi
  obtain ⟨k8, k9⟩ := k7 j hj
  intro n
  induction n with
  | zero =>
    intro v fu f hv hfu
    obtain ⟨fu, rfl⟩ : ∃ q, fu = q + 1 := ⟨fu - 1, by omega⟩
    show ∃ f', F_X2_clear_33b N K (F_X2_clear_33 N K fu) (b + 88) (Int32.ofNat j) (Int32.ofNat v) (axM Z f) = _ ∧ _
    unfold F_X2_clear_33b
    rw [m_gr k2 k5, m_ldrn (t := 0) k6 (by omega) hj (by omega) k8, m_len (t := 0) k9 (by omega), if_pos (qi_ge (by omega) (by omega)), qi_s]
    exact ⟨f, rfl, fun w hw => by rw [if_neg (by omega)], fun _ _ => rfl⟩
  | succ n ih =>
    intro v fu f hv hfu
    obtain ⟨fu, rfl⟩ : ∃ q, fu = q + 1 := ⟨fu - 1, by omega⟩
    show ∃ f', F_X2_clear_33b N K (F_X2_clear_33 N K fu) (b + 88) (Int32.ofNat j) (Int32.ofNat v) (axM Z f) = _ ∧ _
    unfold F_X2_clear_33b
    rw [m_gr k2 k5, m_ldrn (t := 0) k6 (by omega) hj (by omega) k8, m_len (t := 0) k9 (by omega), if_neg (qi_nge (by omega) (by omega)), m_gr k2 k5, m_ldrn (t := 0) k6 (by omega) hj (by omega) k8, m_stn k9 (show v < 1000 by omega) (by omega), qi_s]
    obtain ⟨f', e, g1, g2⟩ := ih (v + 1) fu (ax2 f (b + 91 + j) v 0) (by omega) (by omega)
    refine ⟨f', e, fun w hw => ?_, fun x hx => by rw [g2 x hx, ax2_n _ _ _ _ hx]⟩
    rw [g1 w hw, ax2_a]
    by_cases c1 : v + 1 ≤ w
    · rw [if_pos c1, if_pos (by omega)]
    · rw [if_neg c1]
      by_cases c2 : w = v
      · rw [if_pos c2, if_pos (by omega)]
      · rw [if_neg c2, if_neg (by omega)]
theorem qc_fclear22 (hN : 2000 < N) (hC : LCl Z b fa sf la sl bo sb) : ∀ (n j fu : Nat) (f : Nat → Nat → Int32), j + n = 60 → n < fu → (∀ i, i < j → ∀ v, v < 1000 → f (b + 91 + i) v = 0) → ∃ f', F_X2_clear_22 N fu (b + 88) (Int32.ofNat j) (axM Z f) = some (axM Z f') ∧ (∀ i, i < 60 → ∀ v, v < 1000 → f' (b + 91 + i) v = 0) ∧ ∀ x, (x < b + 91 ∨ b + 150 < x) → f' x = f x := by
  obtain ⟨⟨k1, k2⟩, -, ⟨k5, k6⟩, k7⟩ := hC.fi
  intro n
  induction n with
  | zero =>
    intro j fu f hj hfu hz
    obtain ⟨fu, rfl⟩ : ∃ q, fu = q + 1 := ⟨fu - 1, by omega⟩
    show ∃ f', F_X2_clear_22b N (F_X2_clear_22 N fu) (b + 88) (Int32.ofNat j) (axM Z f) = _ ∧ _
    unfold F_X2_clear_22b
    rw [m_gr k2 k5, m_len (t := 2) k6 (by omega), if_pos (qi_ge (by omega) (by omega))]
    exact ⟨f, rfl, fun i hi => hz i (by omega), fun _ _ => rfl⟩
  | succ n ih =>
    intro j fu f hj hfu hz
    obtain ⟨fu, rfl⟩ : ∃ q, fu = q + 1 := ⟨fu - 1, by omega⟩
    show ∃ f', F_X2_clear_22b N (F_X2_clear_22 N fu) (b + 88) (Int32.ofNat j) (axM Z f) = _ ∧ _
    unfold F_X2_clear_22b
    obtain ⟨f1, e1, g1, fr1⟩ := qc_fclear33 (N := N) hC (show j < 60 by omega) (F_X2_clear_22 N fu) 1000 0 N f (by omega) (by omega)
    rw [m_gr k2 k5, m_len (t := 2) k6 (by omega), if_neg (qi_nge (by omega) (by omega)), show F_X2_clear_33 N (F_X2_clear_22 N fu) N (b + 88) (Int32.ofNat j) 0 (axM Z f) = _ from e1]
    obtain ⟨f2, e2, g2, fr2⟩ := ih (j + 1) fu f1 (by omega) (by omega) (fun i hi v hv => by
      by_cases c : i = j
      · rw [c, g1 v hv, if_pos (by omega)]
      · rw [fr1 _ (by omega)]
        exact hz i (by omega) v hv)
    exact ⟨f2, e2, g2, fun x hx => by rw [fr2 x hx, fr1 x (by omega)]⟩
theorem qc_fclear (hN : 2000 < N) (hC : LCl Z b fa sf la sl bo sb) : ∃ f', F_X2_clear N (b + 88) (axM Z f) = some (axM Z f') ∧ fitS f' b (0, -1, -1) (fun _ _ => 0) 0 ∧ f' (b + 88) 0 = f (b + 88) 0 ∧ ∀ x, (x < b + 88 ∨ b + 150 < x ∨ x = b + 89 ∨ x = b + 90) → f' x = f x := by
  have k2 := hC.fi.1.2
  unfold F_X2_clear
  rw [m_pi k2, m_pi k2, m_pi k2, m_pi k2]
  obtain ⟨f1, e1, g1, fr1⟩ := qc_fclear22 hN hC 60 0 N (ax2 (ax2 (ax2 (ax2 f (b + 88) 1 0) (b + 88) 2 (-1)) (b + 88) 3 (-1)) (b + 88) 4 0) (by omega) (by omega) (fun i hi => absurd hi (by omega))
  have e88 := fr1 (b + 88) (by omega)
  refine ⟨f1, e1, ⟨?_, ?_, ?_, ?_, g1⟩, ?_, fun x hx => by rw [fr1 x (by omega)]; simp only [ax2_n _ _ _ _ (show x ≠ b + 88 by omega)]⟩
  all_goals rw [e88]; simp [ax2_a]
theorem qc_fadd29 (hC : LCl Z b fa sf la sl bo sb) {n : Nat → Nat} (hn : ∀ i, n i ≤ 999) : ∀ (k i fu : Nat) (f : Nat → Nat → Int32), i + k = 60 → k < fu → (∀ j, j < 60 → f (b + 89) j = Int32.ofNat (n j)) → ∃ f', F_X2_add_29 N fu (b + 88) (Int32.ofNat i) (axM Z f) = some (axM Z f') ∧ (∀ j, j < 60 → ∀ v, v < 1000 → f' (b + 91 + j) v = if i ≤ j ∧ v = n j then f (b + 91 + j) v + 1 else f (b + 91 + j) v) ∧ ∀ x, (x < b + 91 ∨ b + 150 < x) → f' x = f x := by
  obtain ⟨⟨k1, k2⟩, ⟨k3, k4⟩, ⟨k5, k6⟩, k7⟩ := hC.fi
  intro k
  induction k with
  | zero =>
    intro i fu f hi hfu hh
    obtain ⟨fu, rfl⟩ : ∃ q, fu = q + 1 := ⟨fu - 1, by omega⟩
    show ∃ f', F_X2_add_29b N (F_X2_add_29 N fu) (b + 88) (Int32.ofNat i) (axM Z f) = _ ∧ _
    unfold F_X2_add_29b
    rw [m_gr k2 k5, m_len (t := 2) k6 (by omega), if_pos (qi_ge (by omega) (by omega))]
    exact ⟨f, rfl, fun j hj v hv => by rw [if_neg (by omega)], fun _ _ => rfl⟩
  | succ k ih =>
    intro i fu f hi hfu hh
    obtain ⟨fu, rfl⟩ : ∃ q, fu = q + 1 := ⟨fu - 1, by omega⟩
    show ∃ f', F_X2_add_29b N (F_X2_add_29 N fu) (b + 88) (Int32.ofNat i) (axM Z f) = _ ∧ _
    obtain ⟨k8, k9⟩ := k7 i (by omega)
    have hni := hn i
    unfold F_X2_add_29b
    rw [m_gr k2 k5, m_len (t := 2) k6 (by omega), if_neg (qi_nge (by omega) (by omega)), m_gr k2 k3, m_atn N k4 (show i < 60 by omega) (by omega), axB_s, hh i (by omega), m_gr k2 k5, m_ldrn (t := 0) k6 (by omega) (show i < 60 by omega) (by omega) k8, m_gr k2 k5, m_ldrn (t := 0) k6 (by omega) (show i < 60 by omega) (by omega) k8, m_atn N k9 (show n i < 1000 by omega) (by omega), axB_s, m_putn N k9 (show n i < 1000 by omega) (by omega), axBV_s, qi_s]
    obtain ⟨f', e, g1, g2⟩ := ih (i + 1) fu (ax2 f (b + 91 + i) (n i) (f (b + 91 + i) (n i) + 1)) (by omega) (by omega) (fun j hj => by rw [ax2_n _ _ _ _ (by omega)]; exact hh j hj)
    refine ⟨f', e, fun j hj v hv => ?_, fun x hx => by rw [g2 x hx, ax2_n _ _ _ _ (by omega)]⟩
    rw [g1 j hj v hv]
    by_cases c1 : j = i
    · subst c1
      rw [if_neg (by omega), ax2_a]
      by_cases c2 : v = n j
      · rw [if_pos c2, if_pos ⟨Nat.le_refl _, c2⟩, c2]
      · rw [if_neg c2, if_neg (fun z => c2 z.2)]
    · rw [ax2_n _ _ _ _ (show b + 91 + j ≠ b + 91 + i by omega)]
      by_cases c2 : i + 1 ≤ j ∧ v = n j
      · rw [if_pos c2, if_pos (by omega)]
      · rw [if_neg c2, if_neg (by omega)]
theorem qc_fadd (hN : 2000 < N) (hC : LCl Z b fa sf la sl bo sb) {n : Nat → Nat} (hn : ∀ i, n i ≤ 999) (hh : ∀ j, j < 60 → f (b + 89) j = Int32.ofNat (n j)) {X : QX} {A : QF} {ow : Int32} (hS : fitS f b X A ow) (o rt : Int32) : ∃ f', F_X2_add N (b + 88) o rt (axM Z f) = some (axM Z f') ∧ fitS f' b (q_fX1 X o rt) (q_fA1 A n) ow ∧ f' (b + 88) 0 = f (b + 88) 0 ∧ ∀ x, (x < b + 88 ∨ b + 150 < x ∨ x = b + 89 ∨ x = b + 90) → f' x = f x := by
  have k2 := hC.fi.1.2
  obtain ⟨a1, a2, a3, a4, a5⟩ := hS
  have go : ∀ (g : Nat → Nat → Int32) (y z : Int32), g (b + 88) 1 = X.1 → g (b + 88) 2 = y → g (b + 88) 3 = z → g (b + 88) 4 = ow → g (b + 88) 0 = f (b + 88) 0 → (∀ x, x ≠ b + 88 → g x = f x) → ∃ f', F_X2_add_17 N (b + 88) (axM Z g) = some (axM Z f') ∧ fitS f' b (X.1 + 1, y, z) (q_fA1 A n) ow ∧ f' (b + 88) 0 = f (b + 88) 0 ∧ ∀ x, (x < b + 88 ∨ b + 150 < x ∨ x = b + 89 ∨ x = b + 90) → f' x = f x := by
    intro g y z h1 h2 h3 h4 h5 hg
    unfold F_X2_add_17
    rw [m_gi k2, h1, m_pi k2]
    obtain ⟨f1, e1, g1, fr1⟩ := qc_fadd29 (N := N) hC hn 60 0 N (ax2 g (b + 88) 1 (X.1 + 1)) (by omega) (by omega) (fun j hj => by rw [ax2_n _ _ _ _ (by omega), hg _ (by omega)]; exact hh j hj)
    have e88 := fr1 (b + 88) (by omega)
    refine ⟨f1, e1, ⟨by rw [e88, ax2_k], by rw [e88, ax2_j _ _ _ _ _ (by omega), h2], by rw [e88, ax2_j _ _ _ _ _ (by omega), h3], by rw [e88, ax2_j _ _ _ _ _ (by omega), h4], fun i hi v hv => ?_⟩, by rw [e88, ax2_j _ _ _ _ _ (by omega), h5], fun x hx => ?_⟩
    · rw [g1 i hi v hv, ax2_n _ _ _ _ (by omega), hg _ (by omega), a5 i hi v hv]
      unfold q_fA1
      by_cases c : v = n i
      · rw [if_pos c, if_pos ⟨by omega, c⟩]
      · rw [if_neg c, if_neg (fun q => c q.2)]
    · by_cases c : x = b + 88
      · omega
      · rw [fr1 x (by omega), ax2_n _ _ _ _ c, hg x c]
  unfold F_X2_add q_fX1
  rw [m_gi k2, a1]
  by_cases c : X.1 = 0
  · simp only [if_pos c]
    rw [m_pi k2, m_pi k2]
    exact go _ o rt (by rw [ax2_j _ _ _ _ _ (by omega), ax2_j _ _ _ _ _ (by omega), a1]) (by rw [ax2_j _ _ _ _ _ (by omega), ax2_k]) (by rw [ax2_k]) (by rw [ax2_j _ _ _ _ _ (by omega), ax2_j _ _ _ _ _ (by omega), a4]) (by rw [ax2_j _ _ _ _ _ (by omega), ax2_j _ _ _ _ _ (by omega)]) (fun x hx => by rw [ax2_n _ _ _ _ hx, ax2_n _ _ _ _ hx])
  · simp only [if_neg c]
    exact go f _ _ a1 a2 a3 a4 rfl (fun _ _ => rfl)
theorem qc_fchs41 (hC : LCl Z b fa sf la sl bo sb) {i : Nat} (hi : i < 60) {A : QF} (hA : ∀ v, v < 1000 → f (b + 91 + i) v = A i v) (K : Nat → Nat → Int32 → AxS → Option AxS) : ∀ (n v fu : Nat) (x : Int32), v + n = 1000 → n < fu → F_X2_choose_41 N K fu (b + 88) bo (Int32.ofNat i) x (Int32.ofNat v) (axM Z f) = if f (b + 88) 5 = -1 then F_X2_choose_89 N K (b + 88) bo (Int32.ofNat i) (q_mxA A i n v x) (axM Z f) else if f (b + 88) 6 ≤ q_mxA A i n v x then F_X2_choose_99 N K (b + 88) bo (Int32.ofNat i) (axM Z f) else F_X2_choose_89 N K (b + 88) bo (Int32.ofNat i) (q_mxA A i n v x) (axM Z f) := by
  obtain ⟨⟨k1, k2⟩, ⟨k3, k4⟩, ⟨k5, k6⟩, k7⟩ := hC.fi
  obtain ⟨k8, k9⟩ := k7 i hi
  intro n
  induction n with
  | zero =>
    intro v fu x hv hfu
    obtain ⟨fu, rfl⟩ : ∃ q, fu = q + 1 := ⟨fu - 1, by omega⟩
    show F_X2_choose_41b N K (F_X2_choose_41 N K fu) (b + 88) bo (Int32.ofNat i) x (Int32.ofNat v) (axM Z f) = _
    unfold F_X2_choose_41b
    rw [m_gr k2 k5, m_ldrn (t := 0) k6 (by omega) hi (by omega) k8, m_len (t := 0) k9 (by omega), if_pos (qi_ge (by omega) (by omega)), m_gi k2, m_gi k2]
    rfl
  | succ n ih =>
    intro v fu x hv hfu
    obtain ⟨fu, rfl⟩ : ∃ q, fu = q + 1 := ⟨fu - 1, by omega⟩
    show F_X2_choose_41b N K (F_X2_choose_41 N K fu) (b + 88) bo (Int32.ofNat i) x (Int32.ofNat v) (axM Z f) = _
    unfold F_X2_choose_41b
    rw [m_gr k2 k5, m_ldrn (t := 0) k6 (by omega) hi (by omega) k8, m_len (t := 0) k9 (by omega), if_neg (qi_nge (by omega) (by omega)), m_gr k2 k5, m_ldrn (t := 0) k6 (by omega) hi (by omega) k8, m_ldn k9 (show v < 1000 by omega) (by omega), hA v (by omega), m_max, axB_s, qi_s]
    exact ih (v + 1) fu _ (by omega) (by omega)
theorem qc_fchs (hN : 2000 < N) (hC : LCl Z b fa sf la sl bo sb) {β : QR} {A : QF} : ∀ (n i fu : Nat) (f : Nat → Nat → Int32) (z : Int32 × Int32), i + n = 60 → n < fu → (∀ i, i < 60 → f (bo + 1) i = β i) → (∀ i, i < 60 → ∀ v, v < 1000 → f (b + 91 + i) v = A i v) → f (b + 88) 5 = z.1 → f (b + 88) 6 = z.2 → ∃ f', F_X2_choose_12 N fu (b + 88) bo (Int32.ofNat i) (axM Z f) = some (axM Z f') ∧ f' (b + 88) 5 = (q_chs β A n i z).1 ∧ f' (b + 88) 6 = (q_chs β A n i z).2 ∧ (∀ k, k < 5 → f' (b + 88) k = f (b + 88) k) ∧ ∀ x, x ≠ b + 88 → f' x = f x := by
  obtain ⟨⟨k1, k2⟩, ⟨k3, k4⟩, ⟨k5, k6⟩, k7⟩ := hC.fi
  obtain ⟨b1, b2, b3, b4⟩ := hC.bk
  have d := hC.2.2.2.2.1
  intro n
  induction n with
  | zero =>
    intro i fu f z hi hfu hβ hA h5 h6
    obtain ⟨fu, rfl⟩ : ∃ q, fu = q + 1 := ⟨fu - 1, by omega⟩
    show ∃ f', F_X2_choose_12b N (F_X2_choose_12 N fu) (b + 88) bo (Int32.ofNat i) (axM Z f) = _ ∧ _
    unfold F_X2_choose_12b
    rw [m_gr k2 k5, m_len (t := 2) k6 (by omega), if_pos (qi_ge (by omega) (by omega))]
    exact ⟨f, rfl, h5, h6, fun _ _ => rfl, fun _ _ => rfl⟩
  | succ n ih =>
    intro i fu f z hi hfu hβ hA h5 h6
    obtain ⟨fu, rfl⟩ : ∃ q, fu = q + 1 := ⟨fu - 1, by omega⟩
    show ∃ f', F_X2_choose_12b N (F_X2_choose_12 N fu) (b + 88) bo (Int32.ofNat i) (axM Z f) = _ ∧ _
    have h41 := qc_fchs41 (N := N) hC (show i < 60 by omega) (fun v hv => hA i (by omega) v hv) (F_X2_choose_12 N fu) 1000 0 N 0 (by omega) (by omega)
    unfold F_X2_choose_12b
    rw [m_gr k2 k5, m_len (t := 2) k6 (by omega), if_neg (qi_nge (by omega) (by omega)), m_gr b2 b3, m_atn N b4 (show i < 60 by omega) (by omega), axB_s, hβ i (by omega), show F_X2_choose_41 N (F_X2_choose_12 N fu) N (b + 88) bo (Int32.ofNat i) 0 0 (axM Z f) = _ from h41, h5, h6]
    unfold F_X2_choose_89 F_X2_choose_99
    rw [qi_s, m_pi k2, m_pi k2]
    have keep : ∃ f', F_X2_choose_12 N fu (b + 88) bo (Int32.ofNat (i + 1)) (axM Z f) = some (axM Z f') ∧ f' (b + 88) 5 = (q_chs β A n (i + 1) z).1 ∧ f' (b + 88) 6 = (q_chs β A n (i + 1) z).2 ∧ (∀ k, k < 5 → f' (b + 88) k = f (b + 88) k) ∧ ∀ x, x ≠ b + 88 → f' x = f x := ih (i + 1) fu f z (by omega) (by omega) hβ hA h5 h6
    have take : ∃ f', F_X2_choose_12 N fu (b + 88) bo (Int32.ofNat (i + 1)) (axM Z (ax2 (ax2 f (b + 88) 5 (Int32.ofNat i)) (b + 88) 6 (q_mxA A i 1000 0 0))) = some (axM Z f') ∧ f' (b + 88) 5 = (q_chs β A n (i + 1) (Int32.ofNat i, q_mxA A i 1000 0 0)).1 ∧ f' (b + 88) 6 = (q_chs β A n (i + 1) (Int32.ofNat i, q_mxA A i 1000 0 0)).2 ∧ (∀ k, k < 5 → f' (b + 88) k = f (b + 88) k) ∧ ∀ x, x ≠ b + 88 → f' x = f x := by
      obtain ⟨f2, e2, g5, g6, g7, fr2⟩ := ih (i + 1) fu (ax2 (ax2 f (b + 88) 5 (Int32.ofNat i)) (b + 88) 6 (q_mxA A i 1000 0 0)) (Int32.ofNat i, q_mxA A i 1000 0 0) (by omega) (by omega) (fun j hj => by rw [ax2_n _ _ _ _ (by omega), ax2_n _ _ _ _ (by omega)]; exact hβ j hj) (fun j hj v hv => by rw [ax2_n _ _ _ _ (by omega), ax2_n _ _ _ _ (by omega)]; exact hA j hj v hv) (by rw [ax2_j _ _ _ _ _ (by omega), ax2_k]) (by rw [ax2_k])
      exact ⟨f2, e2, g5, g6, fun k hk => by rw [g7 k hk, ax2_j _ _ _ _ _ (by omega), ax2_j _ _ _ _ _ (by omega)], fun x hx => by rw [fr2 x hx, ax2_n _ _ _ _ hx, ax2_n _ _ _ _ hx]⟩
    show ∃ f' : Nat → Nat → Int32, _ ∧ f' (b + 88) 5 = (q_chs β A n (i + 1) (if β i = -1 then (if z.1 = -1 then (Int32.ofNat i, q_mxA A i 1000 0 0) else if z.2 ≤ q_mxA A i 1000 0 0 then z else (Int32.ofNat i, q_mxA A i 1000 0 0)) else z)).1 ∧ f' (b + 88) 6 = (q_chs β A n (i + 1) (if β i = -1 then (if z.1 = -1 then (Int32.ofNat i, q_mxA A i 1000 0 0) else if z.2 ≤ q_mxA A i 1000 0 0 then z else (Int32.ofNat i, q_mxA A i 1000 0 0)) else z)).2 ∧ _
    by_cases c1 : β i = -1
    · simp only [if_pos c1]
      by_cases c2 : z.1 = -1
      · simp only [if_pos c2]
        exact take
      · simp only [if_neg c2]
        by_cases c3 : z.2 ≤ q_mxA A i 1000 0 0
        · simp only [if_pos c3]
          exact keep
        · simp only [if_neg c3]
          exact take
    · simp only [if_neg c1]
      exact keep
theorem qc_find31 (hN : 2000 < N) {β : QR} {nl o : Nat} {ow : Int32} (K : Nat → Int32 → AxS → Option AxS) : ∀ (n rt fu : Nat) (f : Nat → Nat → Int32) (st : QX × QF × Bool), rt + n = 21 → n < fu → HC Z b fa sf la sl bo sb f ψ l r → clB f bo β nl → fitS f b st.1 st.2.1 ow → ∃ f', F_X9_findFits_31 N K fu b (Int32.ofNat o) (if st.2.2 = true then 1 else 0) (Int32.ofNat rt) (axM Z f) = K b (Int32.ofNat o + 1) (axM Z f') ∧ fitS f' b (q_fi (q_fR ψ l β) (q_fn ψ l) o n rt st).1 (q_fi (q_fR ψ l β) (q_fn ψ l) o n rt st).2.1 (if (q_fi (q_fR ψ l β) (q_fn ψ l) o n rt st).2.2 = true then ow + 1 else ow) ∧ ∀ x, ¬ scF b x → f' x = f x := by
  intro n
  induction n with
  | zero =>
    intro rt fu f st hr hfu h hB hS
    obtain ⟨fu, rfl⟩ : ∃ q, fu = q + 1 := ⟨fu - 1, by omega⟩
    show ∃ f', F_X9_findFits_31b N K (F_X9_findFits_31 N K fu) b (Int32.ofNat o) (if st.2.2 = true then 1 else 0) (Int32.ofNat rt) (axM Z f) = _ ∧ _
    obtain ⟨⟨k1, k2⟩, -⟩ := h.1.fi
    unfold F_X9_findFits_31b F_X9_findFits_80
    rw [if_pos (show (21 : Int32) ≤ Int32.ofNat rt from qi_ge (i := 21) (by omega) (by omega))]
    show ∃ f', _ ∧ fitS f' b st.1 st.2.1 (if st.2.2 = true then ow + 1 else ow) ∧ _
    by_cases c : st.2.2 = true
    · simp only [if_pos c]
      rw [if_neg (show ¬ (1 : Int32) = 0 by decide), m_gr h.1.1.1 k1, m_gi k2, m_pi k2]
      obtain ⟨a1, a2, a3, a4, a5⟩ := hS
      refine ⟨_, rfl, ⟨by rw [ax2_j _ _ _ _ _ (by omega), a1], by rw [ax2_j _ _ _ _ _ (by omega), a2], by rw [ax2_j _ _ _ _ _ (by omega), a3], by rw [ax2_k, a4], fun i hi v hv => by rw [ax2_n _ _ _ _ (by omega), a5 i hi v hv]⟩, fun x hx => ax2_n _ _ _ _ (by unfold scF at hx; omega)⟩
    · simp only [if_neg c]
      rw [if_pos trivial]
      exact ⟨f, rfl, hS, fun _ _ => rfl⟩
  | succ n ih =>
    intro rt fu f st hr hfu h hB hS
    obtain ⟨fu, rfl⟩ : ∃ q, fu = q + 1 := ⟨fu - 1, by omega⟩
    show ∃ f', F_X9_findFits_31b N K (F_X9_findFits_31 N K fu) b (Int32.ofNat o) (if st.2.2 = true then 1 else 0) (Int32.ofNat rt) (axM Z f) = _ ∧ _
    obtain ⟨⟨k1, k2⟩, -⟩ := h.1.fi
    obtain ⟨f1, e1, r1, fr1⟩ := qc_isRight (N := N) (by omega) h hB (Int32.ofNat o) (Int32.ofNat rt)
    have F1 : ∀ x, ¬ scF b x → f1 x = f x := fun x hx => fr1 x (fun z => hx (Or.inl z)) (by unfold scF at hx; omega)
    have S1 : fitS f1 b st.1 st.2.1 ow := hS.e (fr1 _ (by unfold scC; omega) (by omega)) (fun i hi => fr1 _ (by unfold scC; omega) (by omega))
    unfold F_X9_findFits_31b F_X9_findFits_57
    rw [if_neg (show ¬ (21 : Int32) ≤ Int32.ofNat rt from qi_nge (i := 21) (by omega) (by omega)), m_is h.1.1.1, e1, axB_s]
    show ∃ f', _ ∧ fitS f' b (q_fi (q_fR ψ l β) (q_fn ψ l) o n (rt + 1) (if q_right β (q_fs ψ l (Int32.ofNat o) (Int32.ofNat rt)) = true then (q_fX1 st.1 (Int32.ofNat o) (Int32.ofNat rt), q_fA1 st.2.1 (q_fn ψ l o rt), true) else st)).1 (q_fi (q_fR ψ l β) (q_fn ψ l) o n (rt + 1) (if q_right β (q_fs ψ l (Int32.ofNat o) (Int32.ofNat rt)) = true then (q_fX1 st.1 (Int32.ofNat o) (Int32.ofNat rt), q_fA1 st.2.1 (q_fn ψ l o rt), true) else st)).2.1 (if (q_fi (q_fR ψ l β) (q_fn ψ l) o n (rt + 1) (if q_right β (q_fs ψ l (Int32.ofNat o) (Int32.ofNat rt)) = true then (q_fX1 st.1 (Int32.ofNat o) (Int32.ofNat rt), q_fA1 st.2.1 (q_fn ψ l o rt), true) else st)).2.2 = true then ow + 1 else ow) ∧ _
    by_cases c : q_right β (q_fs ψ l (Int32.ofNat o) (Int32.ofNat rt)) = true
    · simp only [if_pos c]
      have hn := q_fn_n ψ l o rt
      obtain ⟨f2, e2, S2, z2, fr2⟩ := qc_fadd (N := N) hN h.1 (fun i => (hn i).1) (fun j hj => by rw [r1 c j hj, (hn j).2]) S1 (Int32.ofNat o) (Int32.ofNat rt)
      rw [if_neg (show ¬ (1 : Int32) = 0 by decide), m_gr h.1.1.1 k1, m_is k2, e2, axBV_s, qi_s]
      have F2 : ∀ x, ¬ scF b x → f2 x = f x := fun x hx => by rw [fr2 x (by unfold scF at hx; omega), F1 x hx]
      obtain ⟨f3, e3, S3, fr3⟩ := ih (rt + 1) fu f2 (q_fX1 st.1 (Int32.ofNat o) (Int32.ofNat rt), q_fA1 st.2.1 (q_fn ψ l o rt), true) (by omega) (by omega) (h.fx F2) (hB.fx h.1 F2) S2
      exact ⟨f3, e3, S3, fun x hx => by rw [fr3 x hx, F2 x hx]⟩
    · simp only [if_neg c]
      rw [if_pos trivial, qi_s]
      obtain ⟨f3, e3, S3, fr3⟩ := ih (rt + 1) fu f1 st (by omega) (by omega) (h.fx F1) (hB.fx h.1 F1) S1
      exact ⟨f3, e3, S3, fun x hx => by rw [fr3 x hx, F1 x hx]⟩
theorem qc_find20 (hN : 2000 < N) {β : QR} {nl : Nat} : ∀ (n o fu : Nat) (f : Nat → Nat → Int32) (st : QX × QF × Int32), o + n = 200 → n < fu → HC Z b fa sf la sl bo sb f ψ l r → clB f bo β nl → fitS f b st.1 st.2.1 st.2.2 → ∃ f', F_X9_findFits_20 N fu b (Int32.ofNat o) (axM Z f) = some (axM Z f') ∧ f' (b + 88) 0 = 1 ∧ f' (b + 88) 1 = (q_fo (q_fR ψ l β) (q_fn ψ l) n o st).1.1 ∧ f' (b + 88) 2 = (q_fo (q_fR ψ l β) (q_fn ψ l) n o st).1.2.1 ∧ f' (b + 88) 3 = (q_fo (q_fR ψ l β) (q_fn ψ l) n o st).1.2.2 ∧ f' (b + 88) 4 = (q_fo (q_fR ψ l β) (q_fn ψ l) n o st).2.2 ∧ f' (b + 88) 5 = (q_chs β (q_fo (q_fR ψ l β) (q_fn ψ l) n o st).2.1 60 0 (-1, -1)).1 ∧ f' (b + 88) 6 = (q_chs β (q_fo (q_fR ψ l β) (q_fn ψ l) n o st).2.1 60 0 (-1, -1)).2 ∧ ∀ x, ¬ scF b x → f' x = f x := by
  intro n
  induction n with
  | zero =>
    intro o fu f st ho hfu h hB hS
    obtain ⟨fu, rfl⟩ : ∃ q, fu = q + 1 := ⟨fu - 1, by omega⟩
    show ∃ f', F_X9_findFits_20b N (F_X9_findFits_20 N fu) b (Int32.ofNat o) (axM Z f) = _ ∧ _
    obtain ⟨⟨k1, k2⟩, -⟩ := h.1.fi
    obtain ⟨b1, b2, b3, b4⟩ := h.1.bk
    have d := h.1.2.2.2.2.1
    obtain ⟨a1, a2, a3, a4, a5⟩ := hS
    obtain ⟨f1, e1, g5, g6, g7, fr1⟩ := qc_fchs (N := N) (β := β) (A := st.2.1) hN h.1 60 0 N (ax2 (ax2 f (b + 88) 5 (-1)) (b + 88) 6 (-1)) (-1, -1) (by omega) (by omega) (fun i hi => by rw [ax2_n _ _ _ _ (by omega), ax2_n _ _ _ _ (by omega)]; exact hB.2 i hi) (fun i hi v hv => by rw [ax2_n _ _ _ _ (by omega), ax2_n _ _ _ _ (by omega)]; exact a5 i hi v hv) (by rw [ax2_j _ _ _ _ _ (by omega), ax2_k]) (by rw [ax2_k])
    unfold F_X9_findFits_20b F_X2_choose
    rw [if_pos (show (200 : Int32) ≤ Int32.ofNat o from qi_ge (i := 200) (by omega) (by omega)), m_gr h.1.1.1 k1, m_gr h.1.1.1 b1, m_is k2, m_pi k2, m_pi k2, show F_X2_choose_12 N N (b + 88) bo 0 (axM Z (ax2 (ax2 f (b + 88) 5 (-1)) (b + 88) 6 (-1))) = _ from e1, axBV_s, m_gr h.1.1.1 k1, m_pi k2]
    refine ⟨_, rfl, ax2_k _ _ _ _, ?_, ?_, ?_, ?_, ?_, ?_, fun x hx => ?_⟩
    · rw [ax2_j _ _ _ _ _ (by omega), g7 1 (by omega), ax2_j _ _ _ _ _ (by omega), ax2_j _ _ _ _ _ (by omega), a1]
      rfl
    · rw [ax2_j _ _ _ _ _ (by omega), g7 2 (by omega), ax2_j _ _ _ _ _ (by omega), ax2_j _ _ _ _ _ (by omega), a2]
      rfl
    · rw [ax2_j _ _ _ _ _ (by omega), g7 3 (by omega), ax2_j _ _ _ _ _ (by omega), ax2_j _ _ _ _ _ (by omega), a3]
      rfl
    · rw [ax2_j _ _ _ _ _ (by omega), g7 4 (by omega), ax2_j _ _ _ _ _ (by omega), ax2_j _ _ _ _ _ (by omega), a4]
      rfl
    · rw [ax2_j _ _ _ _ _ (by omega), g5]
      rfl
    · rw [ax2_j _ _ _ _ _ (by omega), g6]
      rfl
    · have : x ≠ b + 88 := by unfold scF at hx; omega
      rw [ax2_n _ _ _ _ this, fr1 x this, ax2_n _ _ _ _ this, ax2_n _ _ _ _ this]
  | succ n ih =>
    intro o fu f st ho hfu h hB hS
    obtain ⟨fu, rfl⟩ : ∃ q, fu = q + 1 := ⟨fu - 1, by omega⟩
    show ∃ f', F_X9_findFits_20b N (F_X9_findFits_20 N fu) b (Int32.ofNat o) (axM Z f) = _ ∧ _
    obtain ⟨f1, e1, S1, fr1⟩ := qc_find31 (N := N) (o := o) (ow := st.2.2) hN (F_X9_findFits_20 N fu) 21 0 N f (st.1, st.2.1, false) (by omega) (by omega) h hB hS
    unfold F_X9_findFits_20b
    rw [if_neg (show ¬ (200 : Int32) ≤ Int32.ofNat o from qi_nge (i := 200) (by omega) (by omega)), show F_X9_findFits_31 N (F_X9_findFits_20 N fu) N b (Int32.ofNat o) 0 0 (axM Z f) = _ from e1, qi_s]
    obtain ⟨f2, e2, g0, g1, g2, g3, g4, g5, g6, fr2⟩ := ih (o + 1) fu f1 ((q_fi (q_fR ψ l β) (q_fn ψ l) o 21 0 (st.1, st.2.1, false)).1, (q_fi (q_fR ψ l β) (q_fn ψ l) o 21 0 (st.1, st.2.1, false)).2.1, if (q_fi (q_fR ψ l β) (q_fn ψ l) o 21 0 (st.1, st.2.1, false)).2.2 = true then st.2.2 + 1 else st.2.2) (by omega) (by omega) (h.fx fr1) (hB.fx h.1 fr1) S1
    exact ⟨f2, e2, g0, g1, g2, g3, g4, g5, g6, fun x hx => by rw [fr2 x hx, fr1 x hx]⟩
/-- known from now on -/
theorem qc_find (hN : 2000 < N) {β : QR} {nl : Nat} (h : HC Z b fa sf la sl bo sb f ψ l r) (hB : clB f bo β nl) (hK : fitC f b ψ l β) : ∃ f', F_X9_findFits N b (axM Z f) = some (axM Z f') ∧ f' (b + 88) 0 = 1 ∧ fitK f' b ψ l β ∧ ∀ x, ¬ scF b x → f' x = f x := by
  obtain ⟨⟨k1, k2⟩, -⟩ := h.1.fi
  unfold F_X9_findFits
  rw [m_gr h.1.1.1 k1, m_gi k2]
  rcases hK with e0 | ⟨e1, hk⟩
  · rw [if_pos e0, m_gr h.1.1.1 k1, m_is k2]
    obtain ⟨f1, e1, S1, z1, fr1⟩ := qc_fclear (N := N) (f := f) hN h.1
    have F1 : ∀ x, ¬ scF b x → f1 x = f x := fun x hx => fr1 x (by unfold scF at hx; omega)
    rw [e1, axBV_s]
    obtain ⟨f2, e2, g0, g1, g2, g3, g4, g5, g6, fr2⟩ := qc_find20 (N := N) hN 200 0 N f1 ((0, -1, -1), fun _ _ => 0, 0) (by omega) (by omega) (h.fx F1) (hB.fx h.1 F1) S1
    exact ⟨f2, e2, g0, ⟨g1, g2, g3, g4, g5, g6⟩, fun x hx => by rw [fr2 x hx, F1 x hx]⟩
  · rw [e1, if_neg (by decide)]
    exact ⟨f, rfl, e1, hk, fun _ _ => rfl⟩
def q_fitv (z : QX × QF × Int32) (w : Int32) : Int32 := if w = 0 then z.1.1 else if w = 1 then z.1.2.1 else if w = 2 then z.1.2.2 else z.2.2
/-- as CQz, but what is known of the fits may be new -/
def CFz {α : Type} (Z : AxS) (b : Nat) (f : Nat → Nat → Int32) (ψ : QF) (l : QL) (β : QR) (o : Option (AxT α)) (v : α) : Prop := ∃ f', o = some (.inl v, axM Z f') ∧ fitC f' b ψ l β ∧ ∀ x, ¬ scF b x → f' x = f x
theorem qc_fits (hN : 2000 < N) {β : QR} {nl : Nat} (h : HC Z b fa sf la sl bo sb f ψ l r) (hB : clB f bo β nl) (hK : fitC f b ψ l β) (w : Int32) : ((0 ≤ w ∧ w ≤ 3) → CFz Z b f ψ l β (F_X9_fits N b w (axM Z f)) (q_fitv (q_fall ψ l β) w)) ∧ (¬ (0 ≤ w ∧ w ≤ 3) → CTz Z b f (F_X9_fits N b w (axM Z f)) q_iae 15) := by
  have h0 := h.1.1.1
  obtain ⟨⟨k1, k2⟩, -⟩ := h.1.fi
  unfold F_X9_fits F_X9_fits_14 F_X9_fits_15
  simp only [qc_needT h0, qc_needO h0, q_rg rfl]
  refine ⟨fun c => ?_, fun c => ?_⟩
  · obtain ⟨f1, e1, g0, gk, fr1⟩ := qc_find hN h hB hK
    rw [if_pos c, m_is h0, e1, axBV_s]
    simp only [m_gr h0 k1, m_gi k2]
    have gk' := gk
    obtain ⟨g1, g2, g3, g4, -, -⟩ := gk'
    refine ⟨f1, ?_, Or.inr ⟨g0, gk⟩, fr1⟩
    rw [g1, g2, g3, g4]
    unfold q_fitv
    by_cases w0 : w = 0
    · rw [if_pos w0, if_pos w0]
    rw [if_neg w0, if_neg w0]
    by_cases w1 : w = 1
    · rw [if_pos w1, if_pos w1]
    rw [if_neg w1, if_neg w1]
    by_cases w2 : w = 2
    · rw [if_pos w2, if_pos w2]
    rw [if_neg w2, if_neg w2]
  · rw [if_neg c]
    exact CTz.mk rfl
theorem qc_count (hN : 2000 < N) {β : QR} {nl : Nat} (h : HC Z b fa sf la sl bo sb f ψ l r) (hB : clB f bo β nl) (hK : fitC f b ψ l β) (w : Int32) : ((0 ≤ w ∧ w ≤ 1) → CFz Z b f ψ l β (F_X9_count N b w (axM Z f)) (if w = 0 then (q_fch ψ l β).1 else (q_fch ψ l β).2)) ∧ (¬ (0 ≤ w ∧ w ≤ 1) → CTz Z b f (F_X9_count N b w (axM Z f)) q_iae 15) := by
  have h0 := h.1.1.1
  obtain ⟨⟨k1, k2⟩, -⟩ := h.1.fi
  unfold F_X9_count F_X9_count_14 F_X9_count_15
  simp only [qc_needT h0, qc_needO h0, q_rg rfl]
  refine ⟨fun c => ?_, fun c => ?_⟩
  · obtain ⟨f1, e1, g0, gk, fr1⟩ := qc_find hN h hB hK
    rw [if_pos c, m_is h0, e1, axBV_s]
    simp only [m_gr h0 k1, m_gi k2]
    have gk' := gk
    obtain ⟨-, -, -, -, g5, g6⟩ := gk'
    refine ⟨f1, ?_, Or.inr ⟨g0, gk⟩, fr1⟩
    rw [g5, g6]
    by_cases w0 : w = 0
    · rw [if_pos w0, if_pos w0]
    · rw [if_neg w0, if_neg w0]
  · rw [if_neg c]
    exact CTz.mk rfl
end
