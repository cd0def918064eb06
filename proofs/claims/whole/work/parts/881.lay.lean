/-! how both objects are laid: tables of shapes and references, from the first free address on -/
abbrev TT : Type := (Nat → Option (Nat × Nat)) × (Nat → Nat → Option Nat)
def tn (T : TT) (n : Nat) (sh : Nat × Nat) : TT := (fun a => if a = n then some sh else T.1 a, fun a k => if a = n then none else T.2 a k)
def tM (T : TT) (n N K : Nat) : TT := (fun a => if a = n then some (3, N) else if n < a ∧ a ≤ n + N then some (1, K) else T.1 a, fun a k => if a = n then (if k < N then some (n + 1 + k) else none) else if n < a ∧ a ≤ n + N then none else T.2 a k)
def tp (T : TT) (a k q : Nat) : TT := (T.1, ax2 T.2 a k (some q))
/-- n cells are laid from h on, as T tells, with ints v -/
def IV (S0 : AxS) (h n : Nat) (T : TT) (v : Nat → Nat → Int32) (Z : AxS) (f : Nat → Nat → Int32) : Prop := Z.1 = (some (h + n), S0.1.2) ∧ (∀ a, a < n → axL Z (h + a) = T.1 a ∧ ∀ k, axP Z (h + a) k = (T.2 a k).map (fun q => h + q)) ∧ (∀ x, h ≤ x → x < h + n → f x = v x) ∧ (∀ x, h + n ≤ x → ∀ k, v x k = 0) ∧ ∀ x, x < h → axL Z x = axL S0 x ∧ (∀ k, axP Z x k = axP S0 x k) ∧ f x = axI S0 x
def IS (S0 : AxS) (h n : Nat) (T : TT) (v : Nat → Nat → Int32) (S : AxS) : Prop := ∃ Z f, S = axM Z f ∧ IV S0 h n T v Z f
/-- the program comes to its end, with P -/
def QQ {α : Type} (P : α → Prop) (o : Option α) : Prop := ∃ r, o = some r ∧ P r
theorem QQ.wk {α : Type} {P P1 : α → Prop} {o : Option α} (h : QQ P1 o) (e : ∀ r, P1 r → P r) : QQ P o := by
  obtain ⟨r, e1, h1⟩ := h
  exact ⟨r, e1, e r h1⟩
section
variable {α : Type} {P : α → Prop} {S0 Z : AxS} {h n n1 a q ci k : Nat} {T : TT} {v f : Nat → Nat → Int32}
theorem IV.L (I : IV S0 h n T v Z f) {t : Option (Nat × Nat)} (ha : a < n) (e : T.1 a = t) : axL Z (h + a) = t := (I.2.1 a ha).1.trans e
theorem IV.pp (I : IV S0 h n T v Z f) (ha : a < n) (e : T.2 a k = some q) : axP Z (h + a) k = some (h + q) := by
  rw [(I.2.1 a ha).2 k, e]
  rfl
theorem r_new {sh : Nat × Nat} {K : Nat → AxS → Option α} (e : n + 1 = n1) (I : IV S0 h n T v Z f) (kk : ∀ Z1 f1, IV S0 h n1 (tn T n sh) v Z1 f1 → QQ P (K (h + n) (axM Z1 f1))) : QQ P (ax_new (axM Z f) sh K) := by
  subst e
  obtain ⟨i1, i2, i3, i4, i5⟩ := I
  have e : ax_new (axM Z f) sh K = K (h + n) (axAdd (axM Z f) (h + n) sh) := by
    unfold ax_new
    rw [show (axM Z f).1.1 = some (h + n) by rw [show (axM Z f).1 = Z.1 from rfl, i1]]
  rw [e]
  refine kk (axAdd (axM Z f) (h + n) sh) (axI (axAdd (axM Z f) (h + n) sh)) ⟨?_, fun a ha => ?_, fun x p1 p2 => ?_, fun x p1 => i4 x (by omega), fun x hx => ?_⟩
  · show (some (h + n + 1), Z.1.2) = _
    rw [i1]
    rfl
  · by_cases c : a = n
    · subst c
      refine ⟨(if_pos rfl).trans (if_pos rfl).symm, fun k => ?_⟩
      show (if h + a = h + a then none else _) = Option.map _ (if a = a then none else _)
      rw [if_pos rfl, if_pos rfl]
      rfl
    · obtain ⟨j1, j2⟩ := i2 a (by omega)
      refine ⟨(if_neg (by omega)).trans (j1.trans (if_neg c).symm), fun k => ?_⟩
      show (if h + a = h + n then none else axP Z (h + a) k) = Option.map _ (if a = n then none else _)
      rw [if_neg c, if_neg (by omega), j2 k]
  · by_cases c : x = h + n
    · subst c
      exact funext fun k => (if_pos rfl).trans (i4 _ (Nat.le_refl _) k).symm
    · refine Eq.trans (funext fun k => if_neg c) (i3 x p1 (by omega))
  · exact ⟨(if_neg (by omega)).trans (i5 x hx).1, fun k => (if_neg (by omega)).trans ((i5 x hx).2.1 k), (funext fun k => if_neg (by omega)).trans (i5 x hx).2.2⟩
theorem r_newM {N1 K1 : Nat} {K : Nat → AxS → Option α} (e : n + 1 + N1 = n1) (I : IV S0 h n T v Z f) (kk : ∀ Z1 f1, IV S0 h n1 (tM T n N1 K1) v Z1 f1 → QQ P (K (h + n) (axM Z1 f1))) : QQ P (ax_newM (axM Z f) N1 K1 K) := by
  subst e
  obtain ⟨i1, i2, i3, i4, i5⟩ := I
  have e : ax_newM (axM Z f) N1 K1 K = K (h + n) (axAddM (axM Z f) (h + n) N1 K1) := by
    unfold ax_newM
    rw [show (axM Z f).1.1 = some (h + n) by rw [show (axM Z f).1 = Z.1 from rfl, i1]]
  rw [e]
  refine kk (axAddM (axM Z f) (h + n) N1 K1) (axI (axAddM (axM Z f) (h + n) N1 K1)) ⟨?_, fun a ha => ?_, fun x p1 p2 => ?_, fun x p1 => i4 x (by omega), fun x hx => ?_⟩
  · show (some (h + n + 1 + N1), Z.1.2) = _
    rw [i1, show h + n + 1 + N1 = h + (n + 1 + N1) by omega]
  · by_cases c : a = n
    · subst c
      refine ⟨(if_pos rfl).trans (if_pos rfl).symm, fun k => ?_⟩
      show (if h + a = h + a then (if k < N1 then some (h + a + 1 + k) else none) else _) = Option.map _ (if a = a then (if k < N1 then some (a + 1 + k) else none) else _)
      rw [if_pos rfl, if_pos rfl]
      by_cases c2 : k < N1
      · rw [if_pos c2, if_pos c2, show h + a + 1 + k = h + (a + 1 + k) by omega]
        rfl
      · rw [if_neg c2, if_neg c2]
        rfl
    · by_cases c2 : n < a ∧ a ≤ n + N1
      · refine ⟨((if_neg (by omega)).trans (if_pos (by omega))).trans ((if_neg c).trans (if_pos c2)).symm, fun k => ?_⟩
        show (if h + a = h + n then _ else if h + n < h + a ∧ h + a ≤ h + n + N1 then none else _) = Option.map _ (if a = n then _ else if n < a ∧ a ≤ n + N1 then none else _)
        rw [if_neg c, if_neg (by omega), if_pos c2, if_pos (by omega)]
        rfl
      · obtain ⟨j1, j2⟩ := i2 a (by omega)
        refine ⟨((if_neg (by omega)).trans (if_neg (by omega))).trans (j1.trans ((if_neg c).trans (if_neg c2)).symm), fun k => ?_⟩
        show (if h + a = h + n then _ else if h + n < h + a ∧ h + a ≤ h + n + N1 then none else axP Z (h + a) k) = Option.map _ (if a = n then _ else if n < a ∧ a ≤ n + N1 then none else T.2 a k)
        rw [if_neg c, if_neg (by omega), if_neg c2, if_neg (by omega), j2 k]
  · by_cases c : h + n ≤ x
    · exact funext fun k => (if_pos ⟨c, by omega⟩).trans (i4 _ c k).symm
    · refine Eq.trans (funext fun k => if_neg (by omega)) (i3 x p1 (by omega))
  · exact ⟨((if_neg (by omega)).trans (if_neg (by omega))).trans (i5 x hx).1, fun k => ((if_neg (by omega)).trans (if_neg (by omega))).trans ((i5 x hx).2.1 k), (funext fun k => if_neg (by omega)).trans (i5 x hx).2.2⟩
theorem IV.sp (I : IV S0 h n T v Z f) (ha : a < n) : IV S0 h n (tp T a k q) v (axSP Z (h + a) k (some (h + q))) f := by
  obtain ⟨i1, i2, i3, i4, i5⟩ := I
  refine ⟨i1, fun x hx => ⟨(i2 x hx).1, fun j => ?_⟩, i3, i4, fun x hx => ⟨(i5 x hx).1, fun j => ?_, (i5 x hx).2.2⟩⟩
  rotate_left
  · show (if x = h + a then (if j = k then some (h + q) else axP Z x j) else axP Z x j) = _
    rw [if_neg (by omega), (i5 x hx).2.1 j]
  show (if h + x = h + a then (if j = k then some (h + q) else axP Z (h + x) j) else axP Z (h + x) j) = Option.map _ (if x = a then (if j = k then some q else T.2 x j) else T.2 x j)
  by_cases c : x = a
  · rw [if_pos c, if_pos (by omega)]
    by_cases c2 : j = k
    · rw [if_pos c2, if_pos c2]
      rfl
    · rw [if_neg c2, if_neg c2, (i2 x hx).2 j]
  · rw [if_neg c, if_neg (by omega), (i2 x hx).2 j]
theorem r_pr {K : AxS → Option α} (I : IV S0 h n T v Z f) (hs : T.1 a = some (0, ci)) (ha : a < n) (kk : ∀ Z1, IV S0 h n (tp T a k q) v Z1 f → QQ P (K (axM Z1 f))) : QQ P (ax_pr (axM Z f) (h + a) ci k (h + q) K) := by
  rw [m_pr (I.L ha hs)]
  exact kk _ (I.sp ha)
theorem r_pi {K : AxS → Option α} {w : Int32} (I : IV S0 h n T v Z f) (hs : T.1 a = some (0, ci)) (ha : a < n) (kk : ∀ f1, IV S0 h n T (ax2 v (h + a) k w) Z f1 → QQ P (K (axM Z f1))) : QQ P (ax_pi (axM Z f) (h + a) ci k w K) := by
  rw [m_pi (I.L ha hs)]
  obtain ⟨i1, i2, i3, i4, i5⟩ := I
  refine kk _ ⟨i1, i2, fun x p1 p2 => ?_, fun x p1 j => ?_, fun x hx => ⟨(i5 x hx).1, (i5 x hx).2.1, (ax2_n _ _ _ _ (by omega)).trans (i5 x hx).2.2⟩⟩
  · funext j
    show (if x = h + a then (if j = k then w else f x j) else f x j) = (if x = h + a then (if j = k then w else v x j) else v x j)
    rw [i3 x p1 p2]
  · rw [ax2_n _ _ _ _ (by omega), i4 x p1 j]
theorem r_is {o : Option α} (I : IV S0 h n T v Z f) (hs : T.1 a = some (0, ci)) (ha : a < n) (kk : QQ P o) : QQ P (ax_is (axM Z f) (h + a) ci o) := by
  rw [m_is (I.L ha hs)]
  exact kk
theorem r_gr {K : Nat → Option α} (I : IV S0 h n T v Z f) (hs : T.1 a = some (0, ci)) (hp : T.2 a k = some q) (ha : a < n) (kk : QQ P (K (h + q))) : QQ P (ax_gr (axM Z f) (h + a) ci k K) := by
  rw [m_gr (I.L ha hs) (I.pp ha hp)]
  exact kk
theorem r_len {K : Int32 → Option α} {t len : Nat} (I : IV S0 h n T v Z f) (hs : T.1 a = some (t + 1, len)) (ht : t < 5) (ha : a < n) (kk : QQ P (K (Int32.ofNat len))) : QQ P (ax_len (axM Z f) (h + a) K) := by
  rw [m_len (I.L ha hs) ht]
  exact kk
theorem r_str {K : AxS → Option α} {tag j len : Nat} (I : IV S0 h n T v Z f) (hs : T.1 a = some (tag, len)) (hq : T.1 q = some (0, ci)) (ha : a < n) (hqn : q < n) (hj : j < len) (hl : len < 1000) (kk : ∀ Z1, IV S0 h n (tp T a j q) v Z1 f → QQ P (K (axM Z1 f))) : QQ P (ax_str (axM Z f) (h + a) (Int32.ofNat j) (h + q) tag ci K) := by
  unfold ax_str
  rw [axM_L, axM_L, I.L ha hs, I.L hqn hq]
  show QQ P (if _ then _ else _)
  rw [if_pos ⟨rfl, fun c => c.elim (qi_nn (by omega)) (fun c => by rw [qi_tn (by omega)] at c; omega), rfl⟩, qi_tn (by omega), axM_SP]
  exact kk _ (I.sp ha)
theorem r_bv {K : AxS → Option α} {o : Option AxS} (h1 : QQ (IS S0 h n T v) o) (kk : ∀ Z f, IV S0 h n T v Z f → QQ P (K (axM Z f))) : QQ P (axBV o K) := by
  obtain ⟨S, rfl, Z, f, rfl, I⟩ := h1
  exact kk Z f I
theorem IV.ok (I : IV S0 h n T v Z f) : QQ (IS S0 h n T v) (some (axM Z f)) := ⟨_, rfl, _, _, rfl, I⟩
/-- other ints, the same cells -/
theorem IV.re (I : IV S0 h n T v Z f) (g : Nat → Nat → Int32) (hg : ∀ x, x < h → g x = f x) : IV S0 h n T (fun x k => if h ≤ x ∧ x < h + n then g x k else 0) Z g := ⟨I.1, I.2.1, fun x p1 p2 => funext fun k => (if_pos ⟨p1, p2⟩).symm, fun x p1 k => if_neg (by omega), fun x hx => ⟨(I.2.2.2.2 x hx).1, (I.2.2.2.2 x hx).2.1, (hg x hx).trans (I.2.2.2.2 x hx).2.2⟩⟩
end
/-! the small classes -/
def t0 (T : TT) (n a : Nat) : TT := tp (tn T n (1, 60)) a 0 n
def t5 (T : TT) (n a : Nat) : TT := tp (tn (tp (tn T n (1, 8)) a 12 n) (n + 1) (1, 8)) a 13 (n + 1)
def t4 (T : TT) (n a : Nat) : TT := tp (tn (tp (tn (tp (tn T n (1, 150)) a 0 n) (n + 1) (1, 7)) a 1 (n + 1)) (n + 2) (1, 32)) a 2 (n + 2)
def t6 (T : TT) (n a : Nat) : TT := tp (tn (tp (tn (tp (tn T n (1, 150)) a 0 n) (n + 1) (1, 150)) a 1 (n + 1)) (n + 2) (1, 150)) a 2 (n + 2)
def t7 (T : TT) (n a : Nat) : TT := tp (tn T n (1, 600)) a 0 n
def t2 (T : TT) (n a : Nat) : TT := tp (tM (tp (tn T n (1, 60)) a 7 n) (n + 1) 60 1000) a 8 (n + 1)
def t1 (T : TT) (n a : Nat) : TT := tp (tn (tp (tn (tp (tn (tp (tn (tp (tn T n (1, 12)) a 7 n) (n + 1) (1, 6)) a 8 (n + 1)) (n + 2) (1, 8)) a 9 (n + 2)) (n + 3) (1, 8)) a 10 (n + 3)) (n + 4) (1, 4)) a 11 (n + 4)
def t8 (T : TT) (n a : Nat) : Nat → TT
  | 0 => tp (tn T n (5, 16)) a 0 n
  | j + 1 => tp (t5 (tn (t8 T n a j) (n + 1 + 3 * j) (0, 5)) (n + 1 + 3 * j + 1) (n + 1 + 3 * j)) n j (n + 1 + 3 * j)
def t3 (T : TT) (n a : Nat) : TT := tp (t8 (tn (tp (t5 (tn T n (0, 5)) (n + 1) n) a 0 n) (n + 3) (0, 8)) (n + 4) (n + 3) 16) a 1 (n + 3)
section
variable {S0 Z : AxS} {h n a N : Nat} {T : TT} {v f : Nat → Nat → Int32}
theorem tn_s {sh : Nat × Nat} : (tn T n sh).1 n = some sh := if_pos rfl
theorem tn_o {sh : Nat × Nat} (e : a ≠ n) : (tn T n sh).1 a = T.1 a := if_neg e
theorem i_X0 (I : IV S0 h n T v Z f) (hs : T.1 a = some (0, 0)) (ha : a < n) : QQ (IS S0 h (n + 1) (t0 T n a) v) (F_X0_init N (h + a) (axM Z f)) := by
  unfold F_X0_init
  refine r_new rfl I fun Z1 f1 I => ?_
  refine r_pr I ((tn_o (by omega)).trans hs) (by omega) fun Z2 I => ?_
  exact I.ok
theorem i_X5 (I : IV S0 h n T v Z f) (hs : T.1 a = some (0, 5)) (ha : a < n) : QQ (IS S0 h (n + 2) (t5 T n a) v) (F_X5_init N (h + a) (axM Z f)) := by
  unfold F_X5_init
  refine r_new rfl I fun Z1 f1 I => ?_
  have h1 := (tn_o (sh := (1, 8)) (by omega : a ≠ n)).trans hs
  refine r_pr I h1 (by omega) fun Z2 I => ?_
  refine r_new rfl I fun Z3 f3 I => ?_
  refine r_pr I ((tn_o (by omega)).trans h1) (by omega) fun Z4 I => ?_
  exact I.ok
theorem i_X4 (I : IV S0 h n T v Z f) (hs : T.1 a = some (0, 4)) (ha : a < n) : QQ (IS S0 h (n + 3) (t4 T n a) v) (F_X4_init N (h + a) (axM Z f)) := by
  unfold F_X4_init
  refine r_new rfl I fun Z1 f1 I => ?_
  have h1 := (tn_o (sh := (1, 150)) (by omega : a ≠ n)).trans hs
  refine r_pr I h1 (by omega) fun Z2 I => ?_
  refine r_new rfl I fun Z3 f3 I => ?_
  have h2 := (tn_o (T := tp (tn T n (1, 150)) a 0 n) (sh := (1, 7)) (by omega : a ≠ n + 1)).trans h1
  refine r_pr I h2 (by omega) fun Z4 I => ?_
  refine r_new rfl I fun Z5 f5 I => ?_
  refine r_pr I ((tn_o (by omega)).trans h2) (by omega) fun Z6 I => ?_
  exact I.ok
theorem i_X6 (I : IV S0 h n T v Z f) (hs : T.1 a = some (0, 6)) (ha : a < n) : QQ (IS S0 h (n + 3) (t6 T n a) v) (F_X6_init N (h + a) (axM Z f)) := by
  unfold F_X6_init
  refine r_new rfl I fun Z1 f1 I => ?_
  have h1 := (tn_o (sh := (1, 150)) (by omega : a ≠ n)).trans hs
  refine r_pr I h1 (by omega) fun Z2 I => ?_
  refine r_new rfl I fun Z3 f3 I => ?_
  have h2 := (tn_o (T := tp (tn T n (1, 150)) a 0 n) (sh := (1, 150)) (by omega : a ≠ n + 1)).trans h1
  refine r_pr I h2 (by omega) fun Z4 I => ?_
  refine r_new rfl I fun Z5 f5 I => ?_
  refine r_pr I ((tn_o (by omega)).trans h2) (by omega) fun Z6 I => ?_
  exact I.ok
theorem i_X7 (I : IV S0 h n T v Z f) (hs : T.1 a = some (0, 7)) (ha : a < n) : QQ (IS S0 h (n + 1) (t7 T n a) (ax2 v (h + a) 5 (-1))) (F_X7_init N (h + a) (axM Z f)) := by
  unfold F_X7_init
  refine r_new rfl I fun Z1 f1 I => ?_
  have h1 := (tn_o (sh := (1, 600)) (by omega : a ≠ n)).trans hs
  refine r_pr I h1 (by omega) fun Z2 I => ?_
  refine r_pi I h1 (by omega) fun f3 I => ?_
  exact I.ok
theorem i_X2 (I : IV S0 h n T v Z f) (hs : T.1 a = some (0, 2)) (ha : a < n) : QQ (IS S0 h (n + 62) (t2 T n a) v) (F_X2_init N (h + a) (axM Z f)) := by
  unfold F_X2_init
  refine r_new rfl I fun Z1 f1 I => ?_
  have h1 := (tn_o (sh := (1, 60)) (by omega : a ≠ n)).trans hs
  refine r_pr I h1 (by omega) fun Z2 I => ?_
  refine r_newM rfl I fun Z3 f3 I => ?_
  have h2 : (tM (tp (tn T n (1, 60)) a 7 n) (n + 1) 60 1000).1 a = some (0, 2) := ((if_neg (by omega)).trans (if_neg (by omega))).trans h1
  refine r_pr I h2 (by omega) fun Z4 I => ?_
  exact I.ok
theorem t8_1 (T : TT) (n a : Nat) : ∀ (j x : Nat), x ≤ n → (t8 T n a j).1 x = (tn T n (5, 16)).1 x
  | 0, x, hx => rfl
  | j + 1, x, hx => by
    refine Eq.trans ?_ (t8_1 T n a j x hx)
    show (tn (tn (tn (t8 T n a j) (n + 1 + 3 * j) (0, 5)) (n + 1 + 3 * j + 1) (1, 8)) (n + 1 + 3 * j + 1 + 1) (1, 8)).1 x = _
    rw [tn_o (by omega), tn_o (by omega), tn_o (by omega)]
theorem t8_2 (T : TT) (n a : Nat) (ha : a < n) : ∀ (j : Nat), (t8 T n a j).2 a 0 = some n
  | 0 => (if_pos rfl).trans (if_pos rfl)
  | j + 1 => by
    refine Eq.trans ?_ (t8_2 T n a ha j)
    show (tp (t5 (tn (t8 T n a j) (n + 1 + 3 * j) (0, 5)) (n + 1 + 3 * j + 1) (n + 1 + 3 * j)) n j (n + 1 + 3 * j)).2 a 0 = _
    unfold t5 tp tn
    dsimp only
    rw [ax2_n _ _ _ _ (by omega), ax2_n _ _ _ _ (by omega), if_neg (by omega), ax2_n _ _ _ _ (by omega), if_neg (by omega), if_neg (by omega)]
theorem i_X8l (hs : T.1 a = some (0, 8)) (ha : a < n) : ∀ (d j : Nat) (Z : AxS) (f : Nat → Nat → Int32), j + d = 16 → IV S0 h (n + 1 + 3 * j) (t8 T n a j) v Z f → QQ (IS S0 h (n + 49) (t8 T n a 16) v) (F_X8_init_15 N (d + 1) (h + a) (Int32.ofNat j) (axM Z f)) := by
  intro d
  induction d with
  | zero =>
    intro j Z f e I
    obtain rfl : j = 16 := e
    have s1 : (t8 T n a 16).1 a = some (0, 8) := (t8_1 T n a 16 a (by omega)).trans ((tn_o (by omega)).trans hs)
    have s2 : (t8 T n a 16).1 n = some (5, 16) := (t8_1 T n a 16 n (by omega)).trans (if_pos rfl)
    show QQ _ (F_X8_init_15b N _ (h + a) (Int32.ofNat 16) (axM Z f))
    unfold F_X8_init_15b
    refine r_gr I s1 (t8_2 T n a ha 16) (by omega) ?_
    refine r_len (t := 4) I s2 (by omega) (by omega) ?_
    rw [if_pos (by decide)]
    exact I.ok
  | succ d ih =>
    intro j Z f e I
    have s1 : (t8 T n a j).1 a = some (0, 8) := (t8_1 T n a j a (by omega)).trans ((tn_o (by omega)).trans hs)
    have s2 : (t8 T n a j).1 n = some (5, 16) := (t8_1 T n a j n (by omega)).trans (if_pos rfl)
    show QQ _ (F_X8_init_15b N (F_X8_init_15 N (d + 1)) (h + a) (Int32.ofNat j) (axM Z f))
    unfold F_X8_init_15b
    refine r_gr I s1 (t8_2 T n a ha j) (by omega) ?_
    refine r_len (t := 4) I s2 (by omega) (by omega) ?_
    rw [if_neg (qi_nge (show j < 16 by omega) (by omega))]
    refine r_gr I s1 (t8_2 T n a ha j) (by omega) ?_
    refine r_new rfl I fun Z1 f1 I => ?_
    refine r_bv (i_X5 I (if_pos rfl) (by omega)) fun Z2 f2 I => ?_
    refine r_str (len := 16) I ?_ ?_ (by omega) (by omega) (by omega) (by omega) fun Z3 I => ?_
    · show (tn (tn (tn (t8 T n a j) (n + 1 + 3 * j) (0, 5)) (n + 1 + 3 * j + 1) (1, 8)) (n + 1 + 3 * j + 1 + 1) (1, 8)).1 n = _
      rw [tn_o (by omega), tn_o (by omega), tn_o (by omega), s2]
    · show (tn (tn (tn (t8 T n a j) (n + 1 + 3 * j) (0, 5)) (n + 1 + 3 * j + 1) (1, 8)) (n + 1 + 3 * j + 1 + 1) (1, 8)).1 (n + 1 + 3 * j) = _
      rw [tn_o (by omega), tn_o (by omega)]
      exact if_pos rfl
    · rw [qi_s]
      exact ih (j + 1) Z3 f2 (by omega) I
theorem i_X8 (I : IV S0 h n T v Z f) (hs : T.1 a = some (0, 8)) (ha : a < n) : QQ (IS S0 h (n + 49) (t8 T n a 16) v) (F_X8_init N (h + a) (axM Z f)) := by
  unfold F_X8_init
  refine r_new rfl I fun Z1 f1 I => ?_
  refine r_pr I ((tn_o (by omega)).trans hs) (by omega) fun Z2 I => ?_
  exact i_X8l hs ha 16 0 Z2 f1 rfl I
theorem i_X3 (I : IV S0 h n T v Z f) (hs : T.1 a = some (0, 3)) (ha : a < n) : QQ (IS S0 h (n + 53) (t3 T n a) v) (F_X3_init N (h + a) (axM Z f)) := by
  unfold F_X3_init
  refine r_new rfl I fun Z1 f1 I => ?_
  refine r_bv (i_X5 I (if_pos rfl) (by omega)) fun Z2 f2 I => ?_
  have h1 : (t5 (tn T n (0, 5)) (n + 1) n).1 a = some (0, 3) := by
    show (tn (tn (tn T n (0, 5)) (n + 1) (1, 8)) (n + 1 + 1) (1, 8)).1 a = _
    rw [tn_o (by omega), tn_o (by omega), tn_o (by omega), hs]
  refine r_pr I h1 (by omega) fun Z3 I => ?_
  refine r_new rfl I fun Z4 f4 I => ?_
  refine r_bv (i_X8 I (if_pos rfl) (by omega)) fun Z5 f5 I => ?_
  refine r_pr I ?_ (by omega) fun Z6 I => ?_
  · rw [t8_1 _ _ _ _ _ (by omega), tn_o (by omega), tn_o (by omega)]
    exact h1
  · exact I.ok
theorem i_X1 (hN : 200 < N) (I : IV S0 h n T v Z f) (hs : T.1 a = some (0, 1)) (ha : a + 1 = n) : ∃ v1, QQ (IS S0 h (n + 5) (t1 T n a) v1) (F_X1_init N (h + a) (axM Z f)) ∧ FAc v1 (h + a) q_f0 ∧ ∀ x, h ≤ x → x ≠ h + a → x ≠ h + a + 1 → v1 x = v x := by
  have key : QQ (fun S => ∃ v1, IS S0 h (n + 5) (t1 T n a) v1 S ∧ FAc v1 (h + a) q_f0 ∧ ∀ x, h ≤ x → x ≠ h + a → x ≠ h + a + 1 → v1 x = v x) (F_X1_init N (h + a) (axM Z f)) := by
    subst ha
    unfold F_X1_init
    refine r_new rfl I fun Z1 f1 I => ?_
    have h1 : (tn T (a + 1) (1, 12)).1 a = some (0, 1) := (tn_o (by omega)).trans hs
    refine r_pr I h1 (by omega) fun Z2 I => ?_
    refine r_new rfl I fun Z3 f3 I => ?_
    have h2 := (tn_o (T := tp (tn T (a + 1) (1, 12)) a 7 (a + 1)) (sh := (1, 6)) (by omega : a ≠ a + 1 + 1)).trans h1
    refine r_pr I h2 (by omega) fun Z4 I => ?_
    refine r_new rfl I fun Z5 f5 I => ?_
    have h3 := (tn_o (T := tp (tn (tp (tn T (a + 1) (1, 12)) a 7 (a + 1)) (a + 1 + 1) (1, 6)) a 8 (a + 1 + 1)) (sh := (1, 8)) (by omega : a ≠ a + 1 + 2)).trans h2
    refine r_pr I h3 (by omega) fun Z6 I => ?_
    refine r_new rfl I fun Z7 f7 I => ?_
    have h4 := (tn_o (T := tp (tn (tp (tn (tp (tn T (a + 1) (1, 12)) a 7 (a + 1)) (a + 1 + 1) (1, 6)) a 8 (a + 1 + 1)) (a + 1 + 2) (1, 8)) a 9 (a + 1 + 2)) (sh := (1, 8)) (by omega : a ≠ a + 1 + 3)).trans h3
    refine r_pr I h4 (by omega) fun Z8 I => ?_
    refine r_new rfl I fun Z9 f9 I => ?_
    have h5 := (tn_o (T := tp (tn (tp (tn (tp (tn (tp (tn T (a + 1) (1, 12)) a 7 (a + 1)) (a + 1 + 1) (1, 6)) a 8 (a + 1 + 1)) (a + 1 + 2) (1, 8)) a 9 (a + 1 + 2)) (a + 1 + 3) (1, 8)) a 10 (a + 1 + 3)) (sh := (1, 4)) (by omega : a ≠ a + 1 + 4)).trans h4
    refine r_pr I h5 (by omega) fun Z10 I => ?_
    refine r_is I h5 (by omega) ?_
    have hL : LFa Z10 (h + a) := by
      have pp : ∀ {k q : Nat}, (t1 T (a + 1) a).2 a k = some q → axP Z10 (h + a) k = some (h + q) := fun e => I.pp (by omega) e
      have ll : ∀ {x : Nat} {t : Option (Nat × Nat)}, x < a + 1 + 5 → (t1 T (a + 1) a).1 x = t → axL Z10 (h + x) = t := fun hx e => I.L hx e
      refine ⟨ll (by omega) h5, ⟨pp (q := a + 1) ?_, ll (x := a + 1) (by omega) ?_⟩, ⟨pp (q := a + 2) ?_, ll (x := a + 2) (by omega) ?_⟩, ⟨pp (q := a + 3) ?_, ll (x := a + 3) (by omega) ?_⟩, ⟨pp (q := a + 4) ?_, ll (x := a + 4) (by omega) ?_⟩, pp (q := a + 5) ?_, ll (x := a + 5) (by omega) ?_⟩
      all_goals first | (simp [t1, tp, tn, ax2]; done) | (simp [t1, tp, tn, ax2] <;> omega)
    obtain ⟨f2, e2, F2, r2⟩ := qc_clear (N := N) (f := f9) hN hL
    rw [e2, axBV_s]
    refine ⟨_, rfl, _, ⟨Z10, f2, rfl, I.re f2 fun x hx => r2 x (by omega) (by omega)⟩, F2.fr fun i hi => ?_, fun x p1 p2 p3 => ?_⟩
    · exact funext fun k => if_pos ⟨by omega, by omega⟩
    · by_cases c : x < h + (a + 1 + 5)
      · rw [← I.2.2.1 x p1 c, ← r2 x p2 p3]
        exact funext fun k => if_pos ⟨p1, c⟩
      · exact funext fun k => (if_neg (by omega)).trans (I.2.2.2.1 x (by omega) k).symm
  obtain ⟨S, e, v1, h1, h2, h3⟩ := key
  exact ⟨v1, ⟨S, e, h1⟩, h2, h3⟩
end
