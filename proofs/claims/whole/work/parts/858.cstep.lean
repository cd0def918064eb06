/-! steps: the class reads them -/
def SEc (f : Nat → Nat → Int32) (a i : Nat) (q : QE) : Prop := f (a + 1) i = Int32.ofNat (q.1 + 1) ∧ (q.1 ≠ 2 → q.1 ≠ 5 → f (a + 2) i = Int32.ofNat q.2.1) ∧ (q.1 = 4 → f (a + 3) i = Int32.ofNat q.2.2.1) ∧ (q.1 = 6 → ∀ e, q.2.2.2 = some e → f (a + 3) i = Int32.ofNat e)
def SCl (f : Nat → Nat → Int32) (a : Nat) (L : List QE) : Prop := f a 3 = Int32.ofNat L.length ∧ ∀ i q, L[i]? = some q → SEc f a i q
def SFr (u st : Nat) (f f' : Nat → Nat → Int32) : Prop := (∀ x, x ≠ u → ¬ (st ≤ x ∧ x ≤ st + 3) → f' x = f x) ∧ f' u 1 = f u 1
theorem SFr.rf (u st : Nat) (f : Nat → Nat → Int32) : SFr u st f f := ⟨fun _ _ _ => rfl, rfl⟩
theorem SFr.tr {u st : Nat} {f g h : Nat → Nat → Int32} (h1 : SFr u st f g) (h2 : SFr u st g h) : SFr u st f h := ⟨fun x a c => by rw [h2.1 x a c, h1.1 x a c], by rw [h2.2, h1.2]⟩
theorem CFr.sf {u : Nat} {f g : Nat → Nat → Int32} (h : CFr f g u) (st : Nat) : SFr u st f g := ⟨fun x a _ => h.1 x a, h.2⟩
theorem CFr.sl {u st : Nat} {f g : Nat → Nat → Int32} (h : CFr f g u) (hd : u + 1 < st) {L : List QE} (hL : SCl f st L) : SCl g st L := by
  unfold SCl SEc
  rw [h.1 st (by omega), h.1 (st + 1) (by omega), h.1 (st + 2) (by omega), h.1 (st + 3) (by omega)]
  exact hL
/-- but for place i of the three rows the same -/
def SDx (st i : Nat) (f g : Nat → Nat → Int32) : Prop := ∀ j, j ≠ i → g (st + 1) j = f (st + 1) j ∧ g (st + 2) j = f (st + 2) j ∧ g (st + 3) j = f (st + 3) j
theorem SDx.tr {st i : Nat} {f g h : Nat → Nat → Int32} (h1 : SDx st i f g) (h2 : SDx st i g h) : SDx st i f h := fun j hj => by
  obtain ⟨a, b, c⟩ := h1 j hj
  obtain ⟨d, e, k⟩ := h2 j hj
  exact ⟨by rw [d, a], by rw [e, b], by rw [k, c]⟩
theorem CFr.sd {u st i : Nat} {f g : Nat → Nat → Int32} (h : CFr f g u) (hd : u + 1 < st) : SDx st i f g := fun j _ => by
  rw [h.1 (st + 1) (by omega), h.1 (st + 2) (by omega), h.1 (st + 3) (by omega)]
  exact ⟨rfl, rfl, rfl⟩
theorem SDx.w {st i k : Nat} (f : Nat → Nat → Int32) (v : Int32) : SDx st i f (ax2 f (st + k) i v) := fun j hj => ⟨ax2_j _ _ _ _ _ hj, ax2_j _ _ _ _ _ hj, ax2_j _ _ _ _ _ hj⟩
theorem SDx.w0 {st i k : Nat} (f : Nat → Nat → Int32) (v : Int32) : SDx st i f (ax2 f st k v) := fun j _ => ⟨by rw [ax2_n _ _ _ _ (by omega)], by rw [ax2_n _ _ _ _ (by omega)], by rw [ax2_n _ _ _ _ (by omega)]⟩
theorem SCl.add {st : Nat} {f g : Nat → Nat → Int32} {L : List QE} {q : QE} (h : SCl f st L) (hd : SDx st L.length f g) (h3 : g st 3 = Int32.ofNat (L.length + 1)) (hq : SEc g st L.length q) : SCl g st (L ++ [q]) := by
  refine ⟨by rw [h3, List.length_append]; rfl, fun i y hy => ?_⟩
  by_cases c : i < L.length
  · rw [List.getElem?_append_left c] at hy
    obtain ⟨a, b, d⟩ := hd i (by omega)
    have := h.2 i y hy
    unfold SEc at this ⊢
    rw [a, b, d]
    exact this
  · by_cases c2 : i = L.length
    · subst c2
      rw [List.getElem?_append_right (Nat.le_refl _), Nat.sub_self] at hy
      rw [← Option.some.inj hy]
      exact hq
    · rw [List.getElem?_append_right (by omega), List.getElem?_eq_none (show [q].length ≤ i - L.length by show 1 ≤ _; omega)] at hy
      cases hy
/-- the hole is filled -/
theorem SCl.fill {st e a : Nat} {f g : Nat → Nat → Int32} {L C : List QE} (h : SCl f st (L ++ [(6, a, 0, none)] ++ C)) (hg : g = ax2 f (st + 3) L.length (Int32.ofNat e)) : SCl g st (L ++ ((6, a, 0, some e) :: C)) := by
  subst hg
  have hl : (L ++ [((6 : Nat), a, 0, none)] ++ C).length = (L ++ (((6 : Nat), a, 0, some e) :: C)).length := by
    rw [List.append_assoc]
    show (L ++ (((6 : Nat), a, 0, none) :: C)).length = _
    rw [List.length_append, List.length_append]
    rfl
  refine ⟨by rw [ax2_n _ _ _ _ (by omega), ← hl]; exact h.1, fun i y hy => ?_⟩
  by_cases c2 : i = L.length
  · subst c2
    rw [List.getElem?_append_right (Nat.le_refl _), Nat.sub_self] at hy
    have hh := h.2 L.length (6, a, 0, none) (by rw [List.append_assoc, List.getElem?_append_right (Nat.le_refl _), Nat.sub_self]; rfl)
    rw [← Option.some.inj hy]
    obtain ⟨h1, h2, -, -⟩ := hh
    refine ⟨by rw [ax2_n _ _ _ _ (by omega)]; exact h1, fun p q => by rw [ax2_n _ _ _ _ (by omega)]; exact h2 p q, fun p => absurd p (by show ¬ (6 : Nat) = 4; omega), fun _ e' he => ?_⟩
    rw [ax2_k, ← Option.some.inj he]
  · have hh : (L ++ [((6 : Nat), a, 0, none)] ++ C)[i]? = some y := by
      rw [List.append_assoc]
      by_cases c : i < L.length
      · rw [List.getElem?_append_left c] at hy ⊢
        exact hy
      · rw [List.getElem?_append_right (by omega)] at hy ⊢
        obtain ⟨j, hj⟩ : ∃ j, i - L.length = j + 1 := ⟨i - L.length - 1, by omega⟩
        rw [hj] at hy ⊢
        exact hy
    have := h.2 i y hh
    unfold SEc at this ⊢
    rw [ax2_n _ _ _ _ (show st + 1 ≠ st + 3 by omega), ax2_n _ _ _ _ (show st + 2 ≠ st + 3 by omega), ax2_j _ _ _ _ _ c2]
    exact this
section
variable {Z : AxS} {u st fa N n p op s : Nat} {f f0 : Nat → Nat → Int32} {t : QR} {pl : Int32} {ψ : QF} {acc : List QE} {kr : Nat → Nat → Nat → Int32 → AxS → Option (Int32 × AxS)} {krp : Nat → Nat → QO5}
def QSs (Z : AxS) (u st : Nat) (t : QR) (n : Nat) (pl : Int32) (acc : List QE) (f : Nat → Nat → Int32) (r : Option (Int32 × AxS)) (o : QO5) : Prop := match o with
  | .inl z => ∃ f' q, r = some (0, axM Z f') ∧ CT f' u t n q z.1 z.2 ∧ SFr u st f f'
  | .inr z => ∃ f', r = some (1, axM Z f') ∧ CT f' u t n z.2 0 pl ∧ SCl f' st (acc ++ z.1) ∧ SFr u st f f'
theorem qc_skind (hN : 2000 < N) (hu : LTa Z u) (hT : TXz Z) (h : CT f u t n p 0 pl) (h6 : f u 6 = Int32.ofNat s) (hs : s ≤ p) : F_X6_stepKind N u (axM Z f) = some (if q_kd t s p = 7 then 0 else Int32.ofNat (q_kd t s p + 1), axM Z f) := by
  have h0 := hu.1
  have hw := fun i (hi : i < 7) => qc_isWord hN hu hT (q_U_txt i hi) h h6 hs
  unfold F_X6_stepKind q_kd
  rw [m_is h0, axM_Tx, hw 0 (by omega), axB_s]
  by_cases c0 : q_isw t s p (q_U 0) = true
  · simp only [if_pos c0]
    rw [if_neg (show ¬ (1 : Int32) = 0 by decide), if_neg (by omega)]
    rfl
  simp only [if_neg c0]
  rw [if_pos trivial]
  rw [m_is h0, axM_Tx, hw 1 (by omega), axB_s]
  by_cases c1 : q_isw t s p (q_U 1) = true
  · simp only [if_pos c1]
    rw [if_neg (show ¬ (1 : Int32) = 0 by decide), if_neg (by omega)]
    rfl
  simp only [if_neg c1]
  rw [if_pos trivial]
  rw [m_is h0, axM_Tx, hw 2 (by omega), axB_s]
  by_cases c2 : q_isw t s p (q_U 2) = true
  · simp only [if_pos c2]
    rw [if_neg (show ¬ (1 : Int32) = 0 by decide), if_neg (by omega)]
    rfl
  simp only [if_neg c2]
  rw [if_pos trivial]
  rw [m_is h0, axM_Tx, hw 3 (by omega), axB_s]
  by_cases c3 : q_isw t s p (q_U 3) = true
  · simp only [if_pos c3]
    rw [if_neg (show ¬ (1 : Int32) = 0 by decide), if_neg (by omega)]
    rfl
  simp only [if_neg c3]
  rw [if_pos trivial]
  rw [m_is h0, axM_Tx, hw 4 (by omega), axB_s]
  by_cases c4 : q_isw t s p (q_U 4) = true
  · simp only [if_pos c4]
    rw [if_neg (show ¬ (1 : Int32) = 0 by decide), if_neg (by omega)]
    rfl
  simp only [if_neg c4]
  rw [if_pos trivial]
  rw [m_is h0, axM_Tx, hw 5 (by omega), axB_s]
  by_cases c5 : q_isw t s p (q_U 5) = true
  · simp only [if_pos c5]
    rw [if_neg (show ¬ (1 : Int32) = 0 by decide), if_neg (by omega)]
    rfl
  simp only [if_neg c5]
  rw [if_pos trivial]
  rw [m_is h0, axM_Tx, hw 6 (by omega), axB_s]
  by_cases c6 : q_isw t s p (q_U 6) = true
  · simp only [if_pos c6]
    rw [if_neg (show ¬ (1 : Int32) = 0 by decide), if_neg (by omega)]
    rfl
  simp only [if_neg c6]
  rw [if_pos trivial]
  rw [if_pos trivial]
/-- a number, and where it is put -/
theorem qc_nput {i lo9 : Nat} {lo hi : Int32} (hhi : hi < 100000) (hN : 2000 < N) (hu : LTa Z u) (hd : u + 1 < st) {a : Nat} (ha : axL Z (st + a) = some (1, 150)) (ha3 : 1 ≤ a ∧ a ≤ 3) (hi9 : i < 150) (h : CT f u t n p 0 pl) (hr : SFr u st f0 f) : (∀ z, q_nu1 t n lo hi p = .inr z → ∃ g, (ax_is (axM Z f) u 7 <| axB (F_X7_number N u lo hi (axM Z f)) fun x T => axBV (F_X9_put N (st + a) (Int32.ofNat i) x T) fun T5 => some T5) = some (axM Z (ax2 g (st + a) i (Int32.ofNat z.1))) ∧ CT (ax2 g (st + a) i (Int32.ofNat z.1)) u t n z.2 0 pl ∧ CFr f g u ∧ SFr u st f0 (ax2 g (st + a) i (Int32.ofNat z.1))) ∧ ∀ z, q_nu1 t n lo hi p = .inl z → ∃ g q, (ax_is (axM Z f) u 7 <| axB (F_X7_number N u lo hi (axM Z f)) fun x T => axBV (F_X9_put N (st + a) (Int32.ofNat i) x T) fun T5 => some T5) = some (axM Z g) ∧ CT g u t n q z.1 z.2 ∧ SFr u st f0 g := by
  have r := qc_number hN hu h (lo := lo) hhi
  have w : ∀ (g : Nat → Nat → Int32) v, (∀ q k w, CT g u t n q k w → CT (ax2 g (st + a) i v) u t n q k w) ∧ SFr u st g (ax2 g (st + a) i v) := fun g v => ⟨fun q k w hg => RFc.ct hg (ax2_n _ _ _ _ (by omega)) (ax2_n _ _ _ _ (by omega)), fun x a1 c => ax2_n _ _ _ _ (by omega), by rw [ax2_n _ _ _ _ (by omega)]⟩
  unfold q_nu1
  rw [m_is hu.1]
  by_cases c : q_nok t n p lo hi
  · rw [if_pos (q_nb_t c)]
    refine ⟨fun z e => ?_, fun z e => (by cases e)⟩
    cases e
    obtain ⟨g, e1, g1, -, fr1⟩ := r.1 ⟨rfl, c⟩
    rw [e1, axB_s, m_putn N ha hi9 (by omega), axBV_s]
    exact ⟨g, rfl, (w _ _).1 _ _ _ g1, fr1, (hr.tr (fr1.sf st)).tr (w _ _).2⟩
  · rw [if_neg (q_nb_f c)]
    refine ⟨fun z e => (by cases e), fun z e => ?_⟩
    cases e
    obtain ⟨g, q, x, e1, -, g1, fr1⟩ := r.2 fun y => c y.2
    rw [if_pos rfl, if_pos rfl] at g1
    rw [e1, axB_s, m_putn N ha hi9 (by omega), axBV_s]
    exact ⟨_, q, rfl, (w _ _).1 _ _ _ g1, (hr.tr (fr1.sf st)).tr (w _ _).2⟩
theorem q_m1lt : ∀ c, c ≤ 8 → Int32.ofNat c - 1 < 100000 := by decide
/-- the numbers of a step -/
theorem qc_snums {k i : Nat} (hk : k < 7) (hN : 2000 < N) (hu : LTa Z u) (hS : LSp Z st) (hf : axL Z fa = some (0, 1)) (hd : u + 1 < st) (hfa : fa ≠ u ∧ ¬ (st ≤ fa ∧ fa ≤ st + 3)) (h3 : f0 fa 3 = ψ 0 3) (h5 : f0 fa 5 = ψ 0 5) (b3 : ∃ c, c ≤ 8 ∧ ψ 0 3 = Int32.ofNat c) (b5 : ∃ c, c ≤ 8 ∧ ψ 0 5 = Int32.ofNat c) (hi : i < 150) (h : CT f u t n p 0 pl) (h1 : f (st + 1) i = Int32.ofNat (k + 1)) (hs3 : f st 3 = Int32.ofNat (i + 1)) (hr : SFr u st f0 f) : (∀ z, q_nu t n ψ k p = .inr z → ∃ g, F_X6_readNumbers N st u fa (Int32.ofNat i) (Int32.ofNat (k + 1)) (axM Z f) = some (axM Z g) ∧ CT g u t n z.2.2 0 pl ∧ SDx st i f g ∧ g st 3 = Int32.ofNat (i + 1) ∧ SEc g st i (k, z.1, z.2.1, none) ∧ SFr u st f0 g) ∧ ∀ z, q_nu t n ψ k p = .inl z → ∃ g q, F_X6_readNumbers N st u fa (Int32.ofNat i) (Int32.ofNat (k + 1)) (axM Z f) = some (axM Z g) ∧ CT g u t n q z.1 z.2 ∧ SFr u st f0 g := by
  obtain ⟨hs0, ⟨p0, s0⟩, ⟨p1, s1⟩, p2, s2⟩ := hS
  have x3 : f fa 3 = ψ 0 3 := by rw [hr.1 fa hfa.1 hfa.2, h3]
  have x5 : f fa 5 = ψ 0 5 := by rw [hr.1 fa hfa.1 hfa.2, h5]
  have hh3 : ψ 0 3 - 1 < 100000 := by
    obtain ⟨c, c1, c2⟩ := b3
    rw [c2]
    exact q_m1lt c c1
  have hh5 : ψ 0 5 - 1 < 100000 := by
    obtain ⟨c, c1, c2⟩ := b5
    rw [c2]
    exact q_m1lt c c1
  -- one number, put in the second row
  have one : ∀ (lo hi : Int32), hi < 100000 → k ≠ 4 → (∀ z : Nat × Nat × Nat, (q_bd (q_nu1 t n lo hi p) fun a => (.inr (a.1, 0, a.2) : Sum (Int32 × Int32) (Nat × Nat × Nat))) = .inr z → ∃ g, (ax_is (axM Z f) u 7 <| axB (F_X7_number N u lo hi (axM Z f)) fun x T => axBV (F_X9_put N (st + 2) (Int32.ofNat i) x T) fun T5 => some T5) = some (axM Z g) ∧ CT g u t n z.2.2 0 pl ∧ SDx st i f g ∧ g st 3 = Int32.ofNat (i + 1) ∧ SEc g st i (k, z.1, z.2.1, none) ∧ SFr u st f0 g) ∧ ∀ z : Int32 × Int32, (q_bd (q_nu1 t n lo hi p) fun a => (.inr (a.1, 0, a.2) : Sum (Int32 × Int32) (Nat × Nat × Nat))) = .inl z → ∃ g q, (ax_is (axM Z f) u 7 <| axB (F_X7_number N u lo hi (axM Z f)) fun x T => axBV (F_X9_put N (st + 2) (Int32.ofNat i) x T) fun T5 => some T5) = some (axM Z g) ∧ CT g u t n q z.1 z.2 ∧ SFr u st f0 g := fun lo hi9 hhi k4 => by
    have P := qc_nput (lo := lo) (hi := hi9) (lo9 := 0) hhi hN hu hd s1 (by omega) hi h hr
    rcases e : q_nu1 t n lo hi9 p with z | a
    · rw [q_bd_l rfl]
      exact ⟨fun y q => (by cases q), fun y q => (by cases q; exact P.2 z e)⟩
    · rw [q_bd_r rfl]
      refine ⟨fun y q => ?_, fun y q => (by cases q)⟩
      cases q
      obtain ⟨g, y1, g1, fr1, r1⟩ := P.1 a e
      refine ⟨_, y1, g1, (fr1.sd hd).tr (SDx.w g _), ?_, ⟨?_, fun _ _ => ax2_k _ _ _ _, fun q => absurd q k4, fun _ e he => (by cases he)⟩, r1⟩
      · rw [ax2_n _ _ _ _ (by omega), fr1.1 st (by omega), hs3]
      · rw [ax2_n _ _ _ _ (by omega), fr1.1 (st + 1) (by omega), h1]
  unfold F_X6_readNumbers F_X6_readNumbers_44 q_nu
  have none_ : (k = 2 ∨ k = 5) → (∀ z : Nat × Nat × Nat, (.inr (0, 0, p) : Sum (Int32 × Int32) (Nat × Nat × Nat)) = .inr z → ∃ g, some (axM Z f) = some (axM Z g) ∧ CT g u t n z.2.2 0 pl ∧ SDx st i f g ∧ g st 3 = Int32.ofNat (i + 1) ∧ SEc g st i (k, z.1, z.2.1, none) ∧ SFr u st f0 g) ∧ ∀ z : Int32 × Int32, (.inr (0, 0, p) : Sum (Int32 × Int32) (Nat × Nat × Nat)) = .inl z → ∃ g q, some (axM Z f) = some (axM Z g) ∧ CT g u t n q z.1 z.2 ∧ SFr u st f0 g := fun hk => ⟨fun z q => by
    cases q
    exact ⟨f, rfl, h, fun j _ => ⟨rfl, rfl, rfl⟩, hs3, ⟨h1, fun a c => by show f (st + 2) i = _; exact absurd hk (by show ¬ (k = 2 ∨ k = 5); have : k ≠ 2 := a; have : k ≠ 5 := c; omega), fun q => absurd (show k = 4 from q) (by omega), fun _ e he => (by cases he)⟩, hr⟩, fun z q => (by cases q)⟩
  rcases (show k = 0 ∨ k = 1 ∨ k = 2 ∨ k = 3 ∨ k = 4 ∨ k = 5 ∨ k = 6 by omega) with rfl | rfl | rfl | rfl | rfl | rfl | rfl
  · rw [if_pos (show Int32.ofNat (0 + 1) = 1 by decide), if_pos (show (0 : Nat) = 0 ∨ (0 : Nat) = 3 by omega), m_gr hs0 p1]
    exact one 1 999 (by decide) (by omega)
  · rw [if_neg (show ¬ Int32.ofNat (1 + 1) = 1 by decide), if_pos (show Int32.ofNat (1 + 1) = 2 by decide), if_neg (show ¬ ((1 : Nat) = 0 ∨ (1 : Nat) = 3) by omega), if_pos rfl, m_gr hs0 p1, m_gi hf, x3]
    exact one 0 (ψ 0 3 - 1) hh3 (by omega)
  · rw [if_neg (show ¬ Int32.ofNat (2 + 1) = 1 by decide), if_neg (show ¬ Int32.ofNat (2 + 1) = 2 by decide), if_pos (show Int32.ofNat (2 + 1) = 3 by decide), if_neg (show ¬ ((2 : Nat) = 0 ∨ (2 : Nat) = 3) by omega), if_neg (show ¬ (2 : Nat) = 1 by omega), if_neg (show ¬ (2 : Nat) = 4 by omega), if_neg (show ¬ (2 : Nat) = 6 by omega)]
    exact none_ (by omega)
  · rw [if_neg (show ¬ Int32.ofNat (3 + 1) = 1 by decide), if_neg (show ¬ Int32.ofNat (3 + 1) = 2 by decide), if_neg (show ¬ Int32.ofNat (3 + 1) = 3 by decide), if_pos (show Int32.ofNat (3 + 1) = 4 by decide), if_pos (show (3 : Nat) = 0 ∨ (3 : Nat) = 3 by omega), m_gr hs0 p1]
    exact one 1 999 (by decide) (by omega)
  · rw [if_neg (show ¬ Int32.ofNat (4 + 1) = 1 by decide), if_neg (show ¬ Int32.ofNat (4 + 1) = 2 by decide), if_neg (show ¬ Int32.ofNat (4 + 1) = 3 by decide), if_neg (show ¬ Int32.ofNat (4 + 1) = 4 by decide), if_pos (show Int32.ofNat (4 + 1) = 5 by decide), if_neg (show ¬ ((4 : Nat) = 0 ∨ (4 : Nat) = 3) by omega), if_neg (show ¬ (4 : Nat) = 1 by omega), if_pos rfl, m_gr hs0 p1, m_gi hf, x5]
    have w : ∀ (g : Nat → Nat → Int32) a v, 1 ≤ a ∧ a ≤ 3 → (∀ q k w, CT g u t n q k w → CT (ax2 g (st + a) i v) u t n q k w) ∧ SFr u st g (ax2 g (st + a) i v) := fun g a v ha => ⟨fun q k w hg => RFc.ct hg (ax2_n _ _ _ _ (by omega)) (ax2_n _ _ _ _ (by omega)), fun x a1 c => ax2_n _ _ _ _ (by omega), by rw [ax2_n _ _ _ _ (by omega)]⟩
    have r := qc_number hN hu h (lo := 0) hh5
    unfold q_nu1
    rw [m_is hu.1]
    by_cases c : q_nok t n p 0 (ψ 0 5 - 1)
    · obtain ⟨g1, e1, c1, -, fr1⟩ := r.1 ⟨rfl, c⟩
      have c2 := (w g1 2 (Int32.ofNat (q_num t n (q_bl t n p))) (by omega)).1 _ _ _ c1
      have r2 := (hr.tr (fr1.sf st)).tr (w g1 2 (Int32.ofNat (q_num t n (q_bl t n p))) (by omega)).2
      have y5 : ax2 g1 (st + 2) i (Int32.ofNat (q_num t n (q_bl t n p))) fa 5 = ψ 0 5 := by rw [ax2_n _ _ _ _ (by omega), fr1.1 fa hfa.1, x5]
      rw [if_pos (q_nb_t c), q_bd_r rfl, e1, axB_s, m_putn N s1 hi (by omega), axBV_s, m_gr hs0 p2, m_gi hf, y5, m_is hu.1]
      have rr := qc_number hN hu c2 (lo := 0) hh5
      by_cases d : q_nok t n (q_dgt t n (q_bl t n p)) 0 (ψ 0 5 - 1)
      · obtain ⟨g3, e3, c3, -, fr3⟩ := rr.1 ⟨rfl, d⟩
        rw [if_pos (q_nb_t d), q_bd_r rfl, e3, axB_s, m_putn N s2 hi (by omega), axBV_s]
        refine ⟨fun z e => ?_, fun z e => (by cases e)⟩
        cases e
        refine ⟨_, rfl, (w g3 3 _ (by omega)).1 _ _ _ c3, ((fr1.sd hd).tr (SDx.w g1 _)).tr ((fr3.sd hd).tr (SDx.w g3 _)), ?_, ⟨?_, fun _ _ => ?_, fun _ => ax2_k _ _ _ _, fun q => absurd q (by show ¬ (4 : Nat) = 6; omega)⟩, (r2.tr (fr3.sf st)).tr (w g3 3 _ (by omega)).2⟩
        · rw [ax2_n _ _ _ _ (by omega), fr3.1 st (by omega), ax2_n _ _ _ _ (by omega), fr1.1 st (by omega), hs3]
        · rw [ax2_n _ _ _ _ (by omega), fr3.1 (st + 1) (by omega), ax2_n _ _ _ _ (by omega), fr1.1 (st + 1) (by omega), h1]
        · rw [ax2_n _ _ _ _ (by omega), fr3.1 (st + 2) (by omega), ax2_k]
      · obtain ⟨g3, q, x, e3, -, c3, fr3⟩ := rr.2 fun y => d y.2
        rw [if_pos rfl, if_pos rfl] at c3
        rw [if_neg (q_nb_f d), q_bd_l rfl, e3, axB_s, m_putn N s2 hi (by omega), axBV_s]
        refine ⟨fun z e => (by cases e), fun z e => ?_⟩
        cases e
        exact ⟨_, q, rfl, (w g3 3 _ (by omega)).1 _ _ _ c3, (r2.tr (fr3.sf st)).tr (w g3 3 _ (by omega)).2⟩
    · obtain ⟨g1, q, x, e1, -, c1, fr1⟩ := r.2 fun y => c y.2
      rw [if_pos rfl, if_pos rfl] at c1
      have c2 := (w g1 2 x (by omega)).1 _ _ _ c1
      have r2 := (hr.tr (fr1.sf st)).tr (w g1 2 x (by omega)).2
      have y5 : ax2 g1 (st + 2) i x fa 5 = ψ 0 5 := by rw [ax2_n _ _ _ _ (by omega), fr1.1 fa hfa.1, x5]
      obtain ⟨g3, q3, y, e3, -, c3, fr3⟩ := (qc_number hN hu c2 (lo := 0) hh5).2 fun y => q_nfk_z _ _ _ y.1
      rw [if_neg (q_nfk_z _ _ _), if_neg (q_nfk_z _ _ _)] at c3
      rw [if_neg (q_nb_f c), q_bd_l rfl, e1, axB_s, m_putn N s1 hi (by omega), axBV_s, m_gr hs0 p2, m_gi hf, y5, m_is hu.1, e3, axB_s, m_putn N s2 hi (by omega), axBV_s]
      refine ⟨fun z e => (by cases e), fun z e => ?_⟩
      cases e
      exact ⟨_, q3, rfl, (w g3 3 _ (by omega)).1 _ _ _ c3, (r2.tr (fr3.sf st)).tr (w g3 3 _ (by omega)).2⟩
  · rw [if_neg (show ¬ Int32.ofNat (5 + 1) = 1 by decide), if_neg (show ¬ Int32.ofNat (5 + 1) = 2 by decide), if_neg (show ¬ Int32.ofNat (5 + 1) = 3 by decide), if_neg (show ¬ Int32.ofNat (5 + 1) = 4 by decide), if_neg (show ¬ Int32.ofNat (5 + 1) = 5 by decide), if_pos (show Int32.ofNat (5 + 1) = 6 by decide), if_neg (show ¬ ((5 : Nat) = 0 ∨ (5 : Nat) = 3) by omega), if_neg (show ¬ (5 : Nat) = 1 by omega), if_neg (show ¬ (5 : Nat) = 4 by omega), if_neg (show ¬ (5 : Nat) = 6 by omega)]
    exact none_ (by omega)
  · rw [if_neg (show ¬ Int32.ofNat (6 + 1) = 1 by decide), if_neg (show ¬ Int32.ofNat (6 + 1) = 2 by decide), if_neg (show ¬ Int32.ofNat (6 + 1) = 3 by decide), if_neg (show ¬ Int32.ofNat (6 + 1) = 4 by decide), if_neg (show ¬ Int32.ofNat (6 + 1) = 5 by decide), if_neg (show ¬ Int32.ofNat (6 + 1) = 6 by decide), if_pos (show Int32.ofNat (6 + 1) = 7 by decide), if_neg (show ¬ ((6 : Nat) = 0 ∨ (6 : Nat) = 3) by omega), if_neg (show ¬ (6 : Nat) = 1 by omega), if_neg (show ¬ (6 : Nat) = 4 by omega), if_pos rfl, m_gr hs0 p1]
    exact one 0 30 (by decide) (by omega)
end
