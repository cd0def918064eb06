/-! steps: the model reads them -/
def SEm (g : Nat → Nat → Int32) (m i : Nat) (q : QE) : Prop := g (m + 360 + i) 0 = Int32.ofNat q.1 ∧ (q.1 ≠ 2 → q.1 ≠ 5 → g (m + 360 + i) 1 = Int32.ofNat q.2.1) ∧ (q.1 = 4 → g (m + 360 + i) 2 = Int32.ofNat q.2.2.1) ∧ ∀ e, q.2.2.2 = some e → g (m + 360 + i) 3 = Int32.ofNat e
def SMl (g : Nat → Nat → Int32) (m : Nat) (L : List QE) : Prop := g m 26 = Int32.ofNat L.length ∧ ∀ i q, L[i]? = some q → SEm g m i q
def TMr (m : Nat) (g g' : Nat → Nat → Int32) : Prop := (∀ x, x ≠ m → ¬ (m + 360 ≤ x ∧ x ≤ m + 439) → g' x = g x) ∧ ∀ j, j ≠ 4 → j ≠ 5 → j ≠ 6 → j ≠ 8 → j ≠ 26 → g' m j = g m j
theorem TMr.rf (m : Nat) (g : Nat → Nat → Int32) : TMr m g g := ⟨fun _ _ _ => rfl, fun _ _ _ _ _ _ => rfl⟩
theorem TMr.tr {m : Nat} {f g h : Nat → Nat → Int32} (h1 : TMr m f g) (h2 : TMr m g h) : TMr m f h := ⟨fun x a b => by rw [h2.1 x a b, h1.1 x a b], fun j a b c d e => by rw [h2.2 j a b c d e, h1.2 j a b c d e]⟩
theorem MFr.tm {m : Nat} {f g : Nat → Nat → Int32} (h : MFr f g m) : TMr m f g := ⟨fun x a _ => h.1 x a, fun j a b c _ _ => h.2 j a b c⟩
theorem TMr.row {m i : Nat} (g : Nat → Nat → Int32) (k : Nat) (v : Int32) (hi : i < 80) : TMr m g (ax2 g (m + 360 + i) k v) := ⟨fun x _ c => ax2_n _ _ _ _ (by omega), fun j _ _ _ _ _ => by rw [ax2_n _ _ _ _ (by omega)]⟩
theorem TMr.f8 {m : Nat} (g : Nat → Nat → Int32) (v : Int32) : TMr m g (ax2 g m 8 v) := ⟨fun x a _ => ax2_n _ _ _ _ a, fun j _ _ _ d _ => ax2_j _ _ _ _ _ d⟩
theorem MFr.sm {m : Nat} {f g : Nat → Nat → Int32} (h : MFr f g m) {L : List QE} (hL : SMl f m L) : SMl g m L := ⟨by rw [h.2 26 (by omega) (by omega) (by omega), hL.1], fun i q e => by
  have := hL.2 i q e
  unfold SEm at this ⊢
  rw [h.1 (m + 360 + i) (by omega)]
  exact this⟩
/-- only row i is another one -/
def SRx (m i : Nat) (f g : Nat → Nat → Int32) : Prop := (∀ x, x ≠ m → x ≠ m + 360 + i → g x = f x) ∧ ∀ j, j ≠ 4 → j ≠ 5 → j ≠ 6 → g m j = f m j
theorem SRx.tr {m i : Nat} {f g h : Nat → Nat → Int32} (h1 : SRx m i f g) (h2 : SRx m i g h) : SRx m i f h := ⟨fun x a b => by rw [h2.1 x a b, h1.1 x a b], fun j a b c => by rw [h2.2 j a b c, h1.2 j a b c]⟩
theorem MFr.sr {m : Nat} {f g : Nat → Nat → Int32} (h : MFr f g m) (i : Nat) : SRx m i f g := ⟨fun x a _ => h.1 x a, h.2⟩
theorem SRx.w {m i : Nat} (g : Nat → Nat → Int32) (k : Nat) (v : Int32) : SRx m i g (ax2 g (m + 360 + i) k v) := ⟨fun x _ c => ax2_n _ _ _ _ c, fun j _ _ _ => by rw [ax2_n _ _ _ _ (by omega)]⟩
theorem SRx.tm {m i : Nat} {f g : Nat → Nat → Int32} (h : SRx m i f g) (hi : i < 80) : TMr m f g := ⟨fun x a c => h.1 x a (by omega), fun j a b c _ _ => h.2 j a b c⟩
theorem SMl.add {m : Nat} {f g : Nat → Nat → Int32} {L : List QE} {q : QE} (h : ∀ i y, L[i]? = some y → SEm f m i y) (hd : ∀ i, i < L.length → g (m + 360 + i) = f (m + 360 + i)) (h3 : g m 26 = Int32.ofNat (L.length + 1)) (hq : SEm g m L.length q) : SMl g m (L ++ [q]) := by
  refine ⟨by rw [h3, List.length_append]; rfl, fun i y hy => ?_⟩
  by_cases c : i < L.length
  · rw [List.getElem?_append_left c] at hy
    have := h i y hy
    unfold SEm at this ⊢
    rw [hd i c]
    exact this
  · by_cases c2 : i = L.length
    · subst c2
      rw [List.getElem?_append_right (Nat.le_refl _), Nat.sub_self] at hy
      rw [← Option.some.inj hy]
      exact hq
    · rw [List.getElem?_append_right (by omega), List.getElem?_eq_none (show [q].length ≤ i - L.length by show 1 ≤ _; omega)] at hy
      cases hy
theorem SMl.fill {m e a : Nat} {f g : Nat → Nat → Int32} {L C : List QE} (h : SMl f m (L ++ [(6, a, 0, none)] ++ C)) (hg : g = ax2 f (m + 360 + L.length) 3 (Int32.ofNat e)) : SMl g m (L ++ ((6, a, 0, some e) :: C)) := by
  subst hg
  have hl : (L ++ [((6 : Nat), a, 0, none)] ++ C).length = (L ++ (((6 : Nat), a, 0, some e) :: C)).length := by
    rw [List.append_assoc]
    show (L ++ (((6 : Nat), a, 0, none) :: C)).length = _
    rw [List.length_append, List.length_append]
    rfl
  refine ⟨by rw [ax2_n _ _ _ _ (by omega), ← hl]; exact h.1, fun i y hy => ?_⟩
  by_cases c2 : i = L.length
  · subst c2
    rw [List.getElem?_append_right (Nat.le_refl _), Nat.sub_self] at hy
    have hh := h.2 L.length (6, a, 0, none) (by rw [List.append_assoc, List.getElem?_append_right (Nat.le_refl _), Nat.sub_self]; rfl)
    rw [← Option.some.inj hy]
    obtain ⟨h1, h2, -, -⟩ := hh
    refine ⟨by rw [ax2_j _ _ _ _ _ (by omega)]; exact h1, fun p q => by rw [ax2_j _ _ _ _ _ (by omega)]; exact h2 p q, fun p => absurd p (by show ¬ (6 : Nat) = 4; omega), fun e' he => ?_⟩
    rw [ax2_k, ← Option.some.inj he]
  · have hh : (L ++ [((6 : Nat), a, 0, none)] ++ C)[i]? = some y := by
      rw [List.append_assoc]
      by_cases c : i < L.length
      · rw [List.getElem?_append_left c] at hy ⊢
        exact hy
      · rw [List.getElem?_append_right (by omega)] at hy ⊢
        obtain ⟨j, hj⟩ : ∃ j, i - L.length = j + 1 := ⟨i - L.length - 1, by omega⟩
        rw [hj] at hy ⊢
        exact hy
    have := h.2 i y hh
    unfold SEm at this ⊢
    rw [ax2_n _ _ _ _ (by omega)]
    exact this
section
variable {Z : AxS} {m N n p op s : Nat} {g g0 : Nat → Nat → Int32} {t : QR} {pl : Int32} {ψ : QF} {acc : List QE} {kr : Nat → AxS → Option AxS} {krp : Nat → Nat → QO5}
def QMs5 (Z : AxS) (m : Nat) (t : QR) (n : Nat) (pl : Int32) (op : Nat) (acc : List QE) (g : Nat → Nat → Int32) (r : Option AxS) (o : QO5) : Prop := match o with
  | .inl z => ∃ g' q, r = some (axM Z g') ∧ MT g' m t n q z.1 z.2 ∧ TMr m g g'
  | .inr z => ∃ g', r = some (axM Z g') ∧ MT g' m t n z.2 0 pl ∧ SMl g' m (acc ++ z.1) ∧ g' m 8 = Int32.ofNat op ∧ TMr m g g'
theorem qm_shere (hN : 2000 < N) (hm : LMo Z m) (h : MT g m t n s 0 pl) (hs : q_bl t n s = s) : ∃ g', F_X10_stepHere N m (axM Z g) = some (if q_kd t s (q_wrl t n s) = 7 then -1 else Int32.ofNat (q_kd t s (q_wrl t n s)), axM Z g') ∧ MT g' m t n s 0 pl ∧ MFr g g' m := by
  have hx := hm.1
  have hw := fun (f : Nat → Nat → Int32) (h : MT f m t n s 0 pl) i (hi : i < 7) (a1 a2 a3 a4 a5 a6 a7 : Int32) (hcs : ∀ S, F_X10_seven N a1 a2 a3 a4 a5 a6 a7 S = some (Int64.ofNat (q_E (q_cs (q_U i)) (q_U i).length), S)) => qm_isWord hN hm h hcs (q_U_let i hi)
  rw [hs] at hw
  unfold F_X10_stepHere q_kd
  obtain ⟨f0, e0, h0, fr0⟩ := hw g h 0 (by omega) 16 1 25 0 0 0 0 (fun _ => rfl)
  rw [m_is hx, e0, axB_s]
  replace fr0 := (MFr.rf _ _ : MFr g g m).tr fr0
  by_cases c0 : q_isw t s (q_wrl t n s) (q_U 0) = true
  · simp only [if_pos c0]
    rw [if_neg (show ¬ (1 : Int32) = 0 by decide), if_neg (by omega)]
    exact ⟨f0, rfl, h0, fr0⟩
  simp only [if_neg c0]
  rw [if_pos trivial]
  obtain ⟨f1, e1, h1, fr1⟩ := hw f0 h0 1 (by omega) 1 12 13 19 0 0 0 (fun _ => rfl)
  rw [m_is hx, e1, axB_s]
  replace fr1 := (fr0 : MFr g f0 m).tr fr1
  by_cases c1 : q_isw t s (q_wrl t n s) (q_U 1) = true
  · simp only [if_pos c1]
    rw [if_neg (show ¬ (1 : Int32) = 0 by decide), if_neg (by omega)]
    exact ⟨f1, rfl, h1, fr1⟩
  simp only [if_neg c1]
  rw [if_pos trivial]
  obtain ⟨f2, e2, h2, fr2⟩ := hw f1 h1 2 (by omega) 23 1 24 0 0 0 0 (fun _ => rfl)
  rw [m_is hx, e2, axB_s]
  replace fr2 := (fr1 : MFr g f1 m).tr fr2
  by_cases c2 : q_isw t s (q_wrl t n s) (q_U 2) = true
  · simp only [if_pos c2]
    rw [if_neg (show ¬ (1 : Int32) = 0 by decide), if_neg (by omega)]
    exact ⟨f2, rfl, h2, fr2⟩
  simp only [if_neg c2]
  rw [if_pos trivial]
  obtain ⟨f3, e3, h3, fr3⟩ := hw f2 h2 3 (by omega) 18 5 3 5 9 16 20 (fun _ => rfl)
  rw [m_is hx, e3, axB_s]
  replace fr3 := (fr2 : MFr g f2 m).tr fr3
  by_cases c3 : q_isw t s (q_wrl t n s) (q_U 3) = true
  · simp only [if_pos c3]
    rw [if_neg (show ¬ (1 : Int32) = 0 by decide), if_neg (by omega)]
    exact ⟨f3, rfl, h3, fr3⟩
  simp only [if_neg c3]
  rw [if_pos trivial]
  obtain ⟨f4, e4, h4, fr4⟩ := hw f3 h3 4 (by omega) 19 23 1 16 0 0 0 (fun _ => rfl)
  rw [m_is hx, e4, axB_s]
  replace fr4 := (fr3 : MFr g f3 m).tr fr4
  by_cases c4 : q_isw t s (q_wrl t n s) (q_U 4) = true
  · simp only [if_pos c4]
    rw [if_neg (show ¬ (1 : Int32) = 0 by decide), if_neg (by omega)]
    exact ⟨f4, rfl, h4, fr4⟩
  simp only [if_neg c4]
  rw [if_pos trivial]
  obtain ⟨f5, e5, h5, fr5⟩ := hw f4 h4 5 (by omega) 14 9 7 8 20 0 0 (fun _ => rfl)
  rw [m_is hx, e5, axB_s]
  replace fr5 := (fr4 : MFr g f4 m).tr fr5
  by_cases c5 : q_isw t s (q_wrl t n s) (q_U 5) = true
  · simp only [if_pos c5]
    rw [if_neg (show ¬ (1 : Int32) = 0 by decide), if_neg (by omega)]
    exact ⟨f5, rfl, h5, fr5⟩
  simp only [if_neg c5]
  rw [if_pos trivial]
  obtain ⟨f6, e6, h6, fr6⟩ := hw f5 h5 6 (by omega) 1 7 1 9 14 0 0 (fun _ => rfl)
  rw [m_is hx, e6, axB_s]
  replace fr6 := (fr5 : MFr g f5 m).tr fr6
  by_cases c6 : q_isw t s (q_wrl t n s) (q_U 6) = true
  · simp only [if_pos c6]
    rw [if_neg (show ¬ (1 : Int32) = 0 by decide), if_neg (by omega)]
    exact ⟨f6, rfl, h6, fr6⟩
  simp only [if_neg c6]
  rw [if_pos trivial]
  rw [if_pos trivial]
  exact ⟨f6, rfl, h6, fr6⟩
theorem qm_nput {i k : Nat} {lo hi : Int32} (hN : 2000 < N) (hm : LMo Z m) (hi9 : i < 80) (hk : k < 4) (K : AxS → Option AxS) (h : MT g m t n p 0 pl) : (∀ z, q_nu1 t n lo hi p = .inr z → ∃ g1, (ax_is (axM Z g) m 10 <| axB (F_X10_number N m lo hi (axM Z g)) fun x T => ax_st T (m + 360 + i) (Int32.ofNat k) x fun T4 => K T4) = K (axM Z (ax2 g1 (m + 360 + i) k (Int32.ofNat z.1))) ∧ MT (ax2 g1 (m + 360 + i) k (Int32.ofNat z.1)) m t n z.2 0 pl ∧ MFr g g1 m) ∧ ∀ z, q_nu1 t n lo hi p = .inl z → ∃ g1 q, (ax_is (axM Z g) m 10 <| axB (F_X10_number N m lo hi (axM Z g)) fun x T => ax_st T (m + 360 + i) (Int32.ofNat k) x fun T4 => K T4) = K (axM Z g1) ∧ MT g1 m t n q z.1 z.2 ∧ SRx m i g g1 := by
  have r := qm_number hN hm h lo hi
  obtain ⟨-, sr⟩ : axP Z (m + 359) i = some (m + 360 + i) ∧ axL Z (m + 360 + i) = some (1, 4) := hm.2.2.2 359 80 4 rfl i hi9
  unfold q_nu1
  rw [m_is hm.1]
  by_cases c : q_nok t n p lo hi
  · rw [if_pos (q_nb_t c)]
    refine ⟨fun z e => ?_, fun z e => (by cases e)⟩
    cases e
    obtain ⟨g1, e1, x1, fr1⟩ := r.1 ⟨rfl, c⟩
    rw [e1, axB_s, m_stn sr hk (by omega)]
    exact ⟨g1, rfl, x1.n (by omega) (by omega), fr1⟩
  · rw [if_neg (q_nb_f c)]
    refine ⟨fun z e => (by cases e), fun z e => ?_⟩
    cases e
    obtain ⟨g1, q, e1, x1, fr1⟩ := r.2 fun y => c y.2
    rw [if_pos rfl, if_pos rfl] at x1
    rw [e1, axB_s, m_stn sr hk (by omega)]
    exact ⟨_, q, rfl, x1.n (by omega) (by omega), (fr1.sr i).tr (SRx.w _ _ _)⟩
def q_A6 (N m : Nat) (kr : Nat → AxS → Option AxS) (a7 : Nat) (S : AxS) : Option AxS := ax_is S m 10 <| axBV (F_X10_sign N m 91 S) fun T6 => ax_is T6 m 10 <| axBV (F_X10_blanks N m T6) fun T9 => F_X10_readsStep_173 N kr N m a7 T9
def q_Tl (N m : Nat) (kr : Nat → AxS → Option AxS) (k a7 : Nat) (S : AxS) : Option AxS := if k = 6 then q_A6 N m kr a7 S else F_X10_readsStep_220 N kr m a7 S
theorem qm_snums {k i : Nat} (hk : k < 7) (hN : 2000 < N) (hm : LMo Z m) (h3 : g (m + 4) 0 = ψ 0 3) (h5 : g (m + 4) 2 = ψ 0 5) (hi : i < 80) (h : MT g m t n p 0 pl) (h1 : g (m + 360 + i) 0 = Int32.ofNat k) : (∀ z, q_nu t n ψ k p = .inr z → ∃ g', (if Int32.ofNat k = 0 then F_X10_readsStep_78 N kr m (Int32.ofNat k) (m + 360 + i) (axM Z g) else if Int32.ofNat k = 3 then F_X10_readsStep_78 N kr m (Int32.ofNat k) (m + 360 + i) (axM Z g) else F_X10_readsStep_89 N kr m (Int32.ofNat k) (m + 360 + i) (axM Z g)) = q_Tl N m kr k (m + 360 + i) (axM Z g') ∧ MT g' m t n z.2.2 0 pl ∧ SEm g' m i (k, z.1, z.2.1, none) ∧ SRx m i g g') ∧ ∀ z, q_nu t n ψ k p = .inl z → ∃ g' q, (if Int32.ofNat k = 0 then F_X10_readsStep_78 N kr m (Int32.ofNat k) (m + 360 + i) (axM Z g) else if Int32.ofNat k = 3 then F_X10_readsStep_78 N kr m (Int32.ofNat k) (m + 360 + i) (axM Z g) else F_X10_readsStep_89 N kr m (Int32.ofNat k) (m + 360 + i) (axM Z g)) = q_Tl N m kr k (m + 360 + i) (axM Z g') ∧ MT g' m t n q z.1 z.2 ∧ SRx m i g g' := by
  have h0 := hm.1
  have p12 : axP Z m 12 = some (m + 4) := hm.2.1 12 4 rfl
  have s4 : axL Z (m + 4) = some (1, 7) := hm.2.2.1 4 _ rfl
  have one : ∀ (lo hi9 : Int32) (K : AxS → Option AxS), k ≠ 4 → (∀ z : Nat × Nat × Nat, (q_bd (q_nu1 t n lo hi9 p) fun a => (.inr (a.1, 0, a.2) : Sum (Int32 × Int32) (Nat × Nat × Nat))) = .inr z → ∃ g', (ax_is (axM Z g) m 10 <| axB (F_X10_number N m lo hi9 (axM Z g)) fun x T => ax_st T (m + 360 + i) 1 x fun T4 => K T4) = K (axM Z g') ∧ MT g' m t n z.2.2 0 pl ∧ SEm g' m i (k, z.1, z.2.1, none) ∧ SRx m i g g') ∧ ∀ z : Int32 × Int32, (q_bd (q_nu1 t n lo hi9 p) fun a => (.inr (a.1, 0, a.2) : Sum (Int32 × Int32) (Nat × Nat × Nat))) = .inl z → ∃ g' q, (ax_is (axM Z g) m 10 <| axB (F_X10_number N m lo hi9 (axM Z g)) fun x T => ax_st T (m + 360 + i) 1 x fun T4 => K T4) = K (axM Z g') ∧ MT g' m t n q z.1 z.2 ∧ SRx m i g g' := fun lo hi9 K k4 => by
    have P := qm_nput (lo := lo) (hi := hi9) (k := 1) hN hm hi (by omega) K h
    rcases e : q_nu1 t n lo hi9 p with z | a
    · rw [q_bd_l rfl]
      exact ⟨fun y q => (by cases q), fun y q => (by cases q; exact P.2 z e)⟩
    · rw [q_bd_r rfl]
      refine ⟨fun y q => ?_, fun y q => (by cases q)⟩
      cases q
      obtain ⟨g1, y1, x1, fr1⟩ := P.1 a e
      refine ⟨_, y1, x1, ⟨?_, fun _ _ => ax2_k _ _ _ _, fun q => absurd q k4, fun e he => (by cases he)⟩, (fr1.sr i).tr (SRx.w _ _ _)⟩
      rw [ax2_j _ _ _ _ _ (by omega), fr1.1 _ (by omega), h1]
  have none_ : (k = 2 ∨ k = 5) → ∀ (K : Option AxS), (∀ z : Nat × Nat × Nat, (.inr (0, 0, p) : Sum (Int32 × Int32) (Nat × Nat × Nat)) = .inr z → ∃ g', K = K ∧ g' = g ∧ MT g' m t n z.2.2 0 pl ∧ SEm g' m i (k, z.1, z.2.1, none) ∧ SRx m i g g') := fun hk K z q => by
    cases q
    exact ⟨g, rfl, rfl, h, ⟨h1, fun a c => by exact absurd hk (by show ¬ (k = 2 ∨ k = 5); have : k ≠ 2 := a; have : k ≠ 5 := c; omega), fun q => absurd (show k = 4 from q) (by omega), fun e he => (by cases he)⟩, ⟨fun _ _ _ => rfl, fun _ _ _ _ => rfl⟩⟩
  unfold q_Tl q_nu
  rcases (show k = 0 ∨ k = 1 ∨ k = 2 ∨ k = 3 ∨ k = 4 ∨ k = 5 ∨ k = 6 by omega) with rfl | rfl | rfl | rfl | rfl | rfl | rfl
  · rw [if_pos (show (0 : Nat) = 0 ∨ (0 : Nat) = 3 by omega)]
    simp only [if_neg (show ¬ (0 : Nat) = 6 by omega)]
    rw [if_pos (show Int32.ofNat 0 = 0 by decide)]
    unfold F_X10_readsStep_78 F_X10_readsStep_89 F_X10_readsStep_110 F_X10_readsStep_147
    simp only [if_neg (show ¬ Int32.ofNat 0 = 1 by decide), if_neg (show ¬ Int32.ofNat 0 = 4 by decide), if_neg (show ¬ Int32.ofNat 0 = 6 by decide)]
    exact one 1 999 (fun T4 => F_X10_readsStep_220 N kr m (m + 360 + i) T4) (by omega)
  · rw [if_neg (show ¬ ((1 : Nat) = 0 ∨ (1 : Nat) = 3) by omega), if_pos rfl]
    simp only [if_neg (show ¬ (1 : Nat) = 6 by omega)]
    rw [if_neg (show ¬ Int32.ofNat 1 = 0 by decide), if_neg (show ¬ Int32.ofNat 1 = 3 by decide)]
    unfold F_X10_readsStep_89 F_X10_readsStep_110 F_X10_readsStep_147
    rw [if_pos (show Int32.ofNat 1 = 1 by decide), m_gr h0 p12, m_ld7_0 s4, h3]
    simp only [if_neg (show ¬ Int32.ofNat 1 = 4 by decide), if_neg (show ¬ Int32.ofNat 1 = 6 by decide)]
    exact one 0 (ψ 0 3 - 1) (fun T4 => F_X10_readsStep_220 N kr m (m + 360 + i) T4) (by omega)
  · simp only [if_neg (show ¬ (2 : Nat) = 6 by omega)]
    rw [if_neg (show ¬ Int32.ofNat 2 = 0 by decide), if_neg (show ¬ Int32.ofNat 2 = 3 by decide), if_neg (show ¬ ((2 : Nat) = 0 ∨ (2 : Nat) = 3) by omega), if_neg (show ¬ (2 : Nat) = 1 by omega), if_neg (show ¬ (2 : Nat) = 4 by omega)]
    unfold F_X10_readsStep_89 F_X10_readsStep_110 F_X10_readsStep_147
    rw [if_neg (show ¬ Int32.ofNat 2 = 1 by decide), if_neg (show ¬ Int32.ofNat 2 = 4 by decide), if_neg (show ¬ Int32.ofNat 2 = 6 by decide)]
    refine ⟨fun z e => ?_, fun z e => (by cases e)⟩
    obtain ⟨g', -, rfl, a, b, c⟩ := none_ (by omega) none z e
    exact ⟨g', rfl, a, b, c⟩
  · rw [if_pos (show (3 : Nat) = 0 ∨ (3 : Nat) = 3 by omega)]
    simp only [if_neg (show ¬ (3 : Nat) = 6 by omega)]
    rw [if_neg (show ¬ Int32.ofNat 3 = 0 by decide), if_pos (show Int32.ofNat 3 = 3 by decide)]
    unfold F_X10_readsStep_78 F_X10_readsStep_89 F_X10_readsStep_110 F_X10_readsStep_147
    simp only [if_neg (show ¬ Int32.ofNat 3 = 1 by decide), if_neg (show ¬ Int32.ofNat 3 = 4 by decide), if_neg (show ¬ Int32.ofNat 3 = 6 by decide)]
    exact one 1 999 (fun T4 => F_X10_readsStep_220 N kr m (m + 360 + i) T4) (by omega)
  · rw [if_neg (show ¬ ((4 : Nat) = 0 ∨ (4 : Nat) = 3) by omega), if_neg (show ¬ (4 : Nat) = 1 by omega), if_pos rfl]
    simp only [if_neg (show ¬ (4 : Nat) = 6 by omega)]
    rw [if_neg (show ¬ Int32.ofNat 4 = 0 by decide), if_neg (show ¬ Int32.ofNat 4 = 3 by decide)]
    unfold F_X10_readsStep_89 F_X10_readsStep_110 F_X10_readsStep_147
    rw [if_neg (show ¬ Int32.ofNat 4 = 1 by decide), if_pos (show Int32.ofNat 4 = 4 by decide), m_gr h0 p12, m_ld7_2 s4, h5]
    simp only [if_neg (show ¬ Int32.ofNat 4 = 6 by decide)]
    have P := qm_nput (lo := 0) (hi := ψ 0 5 - 1) (k := 1) hN hm hi (by omega) (fun T6 => ax_gr T6 m 10 12 fun a7 => ax_ld T6 a7 2 fun x8 => ax_is T6 m 10 <| axB (F_X10_number N m 0 (x8 - 1) T6) fun x11 T10 => ax_st T10 (m + 360 + i) 2 x11 fun T12 => F_X10_readsStep_220 N kr m (m + 360 + i) T12) h
    rcases e : q_nu1 t n 0 (ψ 0 5 - 1) p with z | a
    · rw [q_bd_l rfl]
      refine ⟨fun y q => (by cases q), fun y q => ?_⟩
      cases q
      obtain ⟨g1, q, y1, x1, r1⟩ := P.2 z e
      have hz : g1 m 5 ≠ 0 := by
        rw [x1.2.2.1]
        unfold q_nu1 at e
        by_cases c : q_nb t n p 0 (ψ 0 5 - 1) = true
        · rw [if_pos c] at e
          cases e
        · rw [if_neg c] at e
          cases e
          exact q_nfk_z _ _ _
      have y5 : g1 (m + 4) 2 = ψ 0 5 := by rw [r1.1 _ (by omega) (by omega), h5]
      obtain ⟨-, sr⟩ : axP Z (m + 359) i = some (m + 360 + i) ∧ axL Z (m + 360 + i) = some (1, 4) := hm.2.2.2 359 80 4 rfl i hi
      refine ⟨ax2 g1 (m + 360 + i) 2 0, q, Eq.trans y1 ?_, x1.n (by omega) (by omega), r1.tr (SRx.w _ _ _)⟩
      show ax_gr (axM Z g1) m 10 12 _ = _
      rw [m_gr h0 p12, m_ld7_2 s4, y5, m_is h0, qm_numd h0 _ _ hz, axB_s, m_stk_2 sr (by omega)]
    · rw [q_bd_r rfl]
      obtain ⟨g1, y1, x1, fr1⟩ := P.1 a e
      have y5 : ax2 g1 (m + 360 + i) 1 (Int32.ofNat a.1) (m + 4) 2 = ψ 0 5 := by rw [ax2_n _ _ _ _ (by omega), fr1.1 _ (by omega), h5]
      have P2 := qm_nput (lo := 0) (hi := ψ 0 5 - 1) (k := 2) hN hm hi (by omega) (fun T12 => F_X10_readsStep_220 N kr m (m + 360 + i) T12) x1
      rcases e2 : q_nu1 t n 0 (ψ 0 5 - 1) a.2 with z | c
      · rw [q_bd_l rfl]
        refine ⟨fun y q => (by cases q), fun y q => ?_⟩
        cases q
        obtain ⟨g2, q, y2, x2, r2⟩ := P2.2 z e2
        refine ⟨g2, q, Eq.trans y1 ?_, x2, ((fr1.sr i).tr (SRx.w _ _ _)).tr r2⟩
        show ax_gr (axM Z (ax2 g1 (m + 360 + i) 1 (Int32.ofNat a.1))) m 10 12 _ = _
        rw [m_gr h0 p12, m_ld7_2 s4, y5]
        exact y2
      · rw [q_bd_r rfl]
        refine ⟨fun y q => ?_, fun y q => (by cases q)⟩
        cases q
        obtain ⟨g2, y2, x2, fr2⟩ := P2.1 c e2
        refine ⟨_, Eq.trans y1 ?_, x2, ⟨?_, fun _ _ => ?_, fun _ => ax2_k _ _ _ _, fun e he => (by cases he)⟩, ((fr1.sr i).tr (SRx.w _ _ _)).tr ((fr2.sr i).tr (SRx.w _ _ _))⟩
        · show ax_gr (axM Z (ax2 g1 (m + 360 + i) 1 (Int32.ofNat a.1))) m 10 12 _ = _
          rw [m_gr h0 p12, m_ld7_2 s4, y5]
          exact y2
        · rw [ax2_j _ _ _ _ _ (by omega), fr2.1 _ (by omega), ax2_j _ _ _ _ _ (by omega), fr1.1 _ (by omega), h1]
        · rw [ax2_j _ _ _ _ _ (by omega), fr2.1 _ (by omega), ax2_k]
  · simp only [if_neg (show ¬ (5 : Nat) = 6 by omega)]
    rw [if_neg (show ¬ Int32.ofNat 5 = 0 by decide), if_neg (show ¬ Int32.ofNat 5 = 3 by decide), if_neg (show ¬ ((5 : Nat) = 0 ∨ (5 : Nat) = 3) by omega), if_neg (show ¬ (5 : Nat) = 1 by omega), if_neg (show ¬ (5 : Nat) = 4 by omega)]
    unfold F_X10_readsStep_89 F_X10_readsStep_110 F_X10_readsStep_147
    rw [if_neg (show ¬ Int32.ofNat 5 = 1 by decide), if_neg (show ¬ Int32.ofNat 5 = 4 by decide), if_neg (show ¬ Int32.ofNat 5 = 6 by decide)]
    refine ⟨fun z e => ?_, fun z e => (by cases e)⟩
    obtain ⟨g', -, rfl, a, b, c⟩ := none_ (by omega) none z e
    exact ⟨g', rfl, a, b, c⟩
  · simp only [if_pos (show (6 : Nat) = 6 from rfl)]
    rw [if_neg (show ¬ Int32.ofNat 6 = 0 by decide), if_neg (show ¬ Int32.ofNat 6 = 3 by decide), if_neg (show ¬ ((6 : Nat) = 0 ∨ (6 : Nat) = 3) by omega), if_neg (show ¬ (6 : Nat) = 1 by omega), if_neg (show ¬ (6 : Nat) = 4 by omega)]
    unfold F_X10_readsStep_89 F_X10_readsStep_110 F_X10_readsStep_147
    rw [if_neg (show ¬ Int32.ofNat 6 = 1 by decide), if_neg (show ¬ Int32.ofNat 6 = 4 by decide), if_pos (show Int32.ofNat 6 = 6 by decide)]
    exact one 0 30 (fun T4 => q_A6 N m kr (m + 360 + i) T4) (by omega)
end
