/-! what is struck, had it begun so: both sides -/
def q_beg (ψ : QF) (o : Int32) : QR := fun k => if k = 0 then o else if k = 1 then ψ 0 2 else if 13 ≤ k ∧ k < 21 then Int32.ofNat (k - 13) else 0
theorem q_beg_s (ψ : QF) (o p : Int32) : q_set (q_beg ψ o) 0 p = q_beg ψ p := by
  funext k
  unfold q_set q_beg
  by_cases h : k = 0
  · rw [if_pos h, if_pos h]
  · rw [if_neg h, if_neg h, if_neg h]
theorem q_beg_z (ψ : QF) (o : Int32) {k : Nat} (h0 : 2 ≤ k) (h1 : k < 13 ∨ 21 ≤ k) : q_beg ψ o k = 0 := by
  unfold q_beg
  rw [if_neg (by omega), if_neg (by omega), if_neg (by omega)]
theorem q_beg_b (ψ : QF) (o : Int32) {k : Nat} (h : k < 8) : q_beg ψ o (13 + k) = Int32.ofNat k := by
  unfold q_beg
  rw [if_neg (by omega), if_neg (by omega), if_pos (by omega), Nat.add_sub_cancel_left]
def q_fr (ψ : QF) (l : QL) (o rt : Int32) : Nat → QR
  | 0 => q_beg ψ o
  | i + 1 => q_turn ψ rt (q_str l (q_fr ψ l o rt i) 0) (q_fr ψ l o rt i)
def q_fs (ψ : QF) (l : QL) (o rt : Int32) (i : Nat) : Int32 := q_str l (q_fr ψ l o rt i) 0
theorem q_fr_s (ψ : QF) (l : QL) (o rt : Int32) (i : Nat) : q_fr ψ l o rt (i + 1) = q_turn ψ rt (q_fs ψ l o rt i) (q_fr ψ l o rt i) := rfl
def q_fz (i : Nat) (ρ : QR) : Prop := ρ 4 = 0 ∧ ρ 5 = 0 ∧ ρ 6 = 0 ∧ ρ 7 = 0 ∧ ρ 8 = 0 ∧ ρ 11 = 0 ∧ ρ 12 = 0 ∧ ρ 2 = Int32.ofNat i
theorem q_fz_s {ψ : QF} {rt s : Int32} {i : Nat} {ρ : QR} (h : q_fz i ρ) : q_fz (i + 1) (q_turn ψ rt s ρ) := by
  obtain ⟨h4, h5, h6, h7, h8, h11, h12, h2⟩ := h
  refine ⟨rfl, rfl, ?_, ?_, ?_, rfl, ?_, ?_⟩
  · show (if q_max 0 (ρ 7 - 1) = 0 then 0 else ρ 6) = 0
    rw [h6, ite_self]
  · show q_max 0 (ρ 7 - 1) = 0
    rw [h7]
    decide
  · show (if ρ 7 = 1 then ρ 6 else 0) = 0
    rw [h6, ite_self]
  · exact h12
  · show ρ 2 + 1 = _
    rw [h2, qi_s]
theorem q_fz_fr (ψ : QF) (l : QL) (o rt : Int32) : ∀ i, q_fz i (q_fr ψ l o rt i)
  | 0 => ⟨rfl, rfl, rfl, rfl, rfl, rfl, rfl, rfl⟩
  | i + 1 => q_fz_s (q_fz_fr ψ l o rt i)
theorem q_str_n {l : QL} {r : QR} (st : Int32) (h : r 8 = 0) : ∃ n, n ≤ 999 ∧ q_str l r st = Int32.ofNat n := by
  unfold q_str q_toll
  rw [h, Int32.add_zero]
  obtain ⟨y, hy, e⟩ : ∃ y, y < 2147483648 ∧ q_max 0 (q_lawv l (q_inp r st)) = Int32.ofNat y := by
    unfold q_max
    by_cases c : 0 < q_lawv l (q_inp r st)
    · rw [if_pos c]
      obtain ⟨e, hb⟩ := qi_of (Int32.not_lt.mpr (Int32.le_of_lt c))
      exact ⟨_, hb, e⟩
    · rw [if_neg c]
      exact ⟨0, by omega, rfl⟩
  rw [e, show q_min 999 (Int32.ofNat y) = Int32.ofNat (min 999 y) from q_minn (i := 999) (by omega) hy, show q_min 999 (Int32.ofNat (min 999 y)) = Int32.ofNat (min 999 (min 999 y)) from q_minn (i := 999) (by omega) (by omega)]
  exact ⟨_, by omega, rfl⟩
theorem q_fs_n (ψ : QF) (l : QL) (o rt : Int32) (i : Nat) : ∃ n, n ≤ 999 ∧ q_fs ψ l o rt i = Int32.ofNat n := q_str_n 0 (q_fz_fr ψ l o rt i).2.2.2.2.1
theorem q_str_c {l : QL} {r s : QR} (st : Int32) (h : ∀ k, k ≠ 9 → r k = s k) : q_str l r st = q_str l s st := by
  have e : q_inp r st = q_inp s st := by
    unfold q_inp q_asks
    rw [h 0 (by omega), h 6 (by omega), h 4 (by omega), h 2 (by omega), h 3 (by omega), h 5 (by omega), h 1 (by omega)]
  unfold q_str
  rw [e, h 8 (by omega)]
/-- the lines of a book, on both sides -/
def clB (f : Nat → Nat → Int32) (bo : Nat) (β : QR) (nl : Nat) : Prop := f bo 1 = Int32.ofNat nl ∧ ∀ i, i < 60 → f (bo + 1) i = β i
def mlB (f : Nat → Nat → Int32) (m : Nat) (β : QR) (nl : Nat) : Prop := f m 31 = Int32.ofNat nl ∧ nl ≤ 8 ∧ ∃ I : Nat → Nat, (∀ k, k < nl → I k < 60 ∧ f (m + 340 + k) 0 = Int32.ofNat (I k) ∧ f (m + 340 + k) 1 = β (I k) ∧ β (I k) ≠ -1) ∧ ∀ i, i < 60 → β i ≠ -1 → ∃ k, k < nl ∧ I k = i
def q_right (β S : QR) : Bool := q_allb (fun i => decide (β i = -1 ∨ β i = S i)) 60 0
def scF (b x : Nat) : Prop := scC b x ∨ (b + 88 ≤ x ∧ x ≤ b + 150)
section
variable {Z : AxS} {b m fa sf la sl bo sb N B : Nat} {ψ : QF} {l : QL} {r ρ : QR} {f f0 : Nat → Nat → Int32}
theorem HC.fx (h : HC Z b fa sf la sl bo sb f0 ψ l r) (hf : ∀ x, ¬ scF b x → f x = f0 x) : HC Z b fa sf la sl bo sb f ψ l r := by
  obtain ⟨hC, hF, hw, hl, hlw, hR, hok⟩ := h
  have dla := hC.2.2.2.1
  have dfa := hC.2.2.1
  have G : ∀ x, ¬ scF b x → f x = f0 x := hf
  unfold scF scC at G
  refine ⟨hC, ?_, hw, hl.e (G _ (by omega)) (G _ (by omega)), hlw, ?_, hok⟩
  · rw [← hF]
    exact rdF_e (fun x h1 h2 => G x (by omega))
  · rw [← hR]
    exact rdSt_e (G _ (by omega)) (G _ (by omega)) (G _ (by omega))
theorem clB.fx {β : QR} {nl : Nat} (hC : LCl Z b fa sf la sl bo sb) (h : clB f0 bo β nl) (hf : ∀ x, ¬ scF b x → f x = f0 x) : clB f bo β nl := by
  have d := hC.2.2.2.2.1
  have G : ∀ x, ¬ scF b x → f x = f0 x := hf
  unfold scF scC at G
  obtain ⟨h1, h2⟩ := h
  exact ⟨by rw [G bo (by omega)]; exact h1, fun i hi => by rw [G (bo + 1) (by omega)]; exact h2 i hi⟩
theorem qc_begin_l {a : Nat} (ha : LSt Z a) : ∀ (n i fu : Nat) (f : Nat → Nat → Int32), i + n = 8 → n < fu → ∃ f', F_X5_begin_68 N fu a (Int32.ofNat i) (axM Z f) = some (axM Z f') ∧ (∀ k, k < 8 → f' (a + 1) k = if i ≤ k then Int32.ofNat k else f (a + 1) k) ∧ (∀ k, k < 8 → f' (a + 2) k = if i ≤ k then 0 else f (a + 2) k) ∧ ∀ x, x ≠ a + 1 → x ≠ a + 2 → f' x = f x := by
  obtain ⟨h1, h2, h3, h4, h5⟩ := ha
  intro n
  induction n with
  | zero =>
    intro i fu f hi hfu
    obtain ⟨fu, rfl⟩ : ∃ q, fu = q + 1 := ⟨fu - 1, by omega⟩
    show ∃ f', F_X5_begin_68b N (F_X5_begin_68 N fu) a (Int32.ofNat i) (axM Z f) = _ ∧ _
    unfold F_X5_begin_68b
    rw [if_pos (show (8 : Int32) ≤ Int32.ofNat i from qi_ge (i := 8) (by omega) (by omega))]
    exact ⟨f, rfl, fun k hk => by rw [if_neg (by omega)], fun k hk => by rw [if_neg (by omega)], fun _ _ _ => rfl⟩
  | succ n ih =>
    intro i fu f hi hfu
    obtain ⟨fu, rfl⟩ : ∃ q, fu = q + 1 := ⟨fu - 1, by omega⟩
    show ∃ f', F_X5_begin_68b N (F_X5_begin_68 N fu) a (Int32.ofNat i) (axM Z f) = _ ∧ _
    unfold F_X5_begin_68b
    rw [if_neg (show ¬ (8 : Int32) ≤ Int32.ofNat i from qi_nge (i := 8) (by omega) (by omega)), m_gr h1 h2, m_putn N h4 (show i < 8 by omega) (by omega), axBV_s, m_gr h1 h3, m_putn N h5 (show i < 8 by omega) (by omega), axBV_s, qi_s]
    obtain ⟨f', e, g1, g2, g3⟩ := ih (i + 1) fu (ax2 (ax2 f (a + 1) i (Int32.ofNat i)) (a + 2) i 0) (by omega) (by omega)
    refine ⟨f', e, fun k hk => ?_, fun k hk => ?_, fun x p q => by rw [g3 x p q, ax2_n _ _ _ _ q, ax2_n _ _ _ _ p]⟩
    · rw [g1 k hk, ax2_n _ _ _ _ (show a + 1 ≠ a + 2 by omega), ax2_a]
      by_cases c1 : i + 1 ≤ k
      · rw [if_pos c1, if_pos (by omega)]
      · rw [if_neg c1]
        by_cases c2 : k = i
        · rw [if_pos c2, if_pos (by omega), c2]
        · rw [if_neg c2, if_neg (by omega)]
    · rw [g2 k hk, ax2_a, ax2_n _ _ _ _ (show a + 2 ≠ a + 1 by omega)]
      by_cases c1 : i + 1 ≤ k
      · rw [if_pos c1, if_pos (by omega)]
      · rw [if_neg c1]
        by_cases c2 : k = i
        · rw [if_pos c2, if_pos (by omega)]
        · rw [if_neg c2, if_neg (by omega)]
theorem qc_begin {a : Nat} (hN : 200 < N) (ha : LSt Z a) (hfa : LFa Z fa) (hd : fa ≠ a) (h0 : f fa 0 = ψ 0 0) (h2 : f fa 2 = ψ 0 2) : ∃ f', F_X5_begin N a fa (axM Z f) = some (axM Z f') ∧ rdSt f' a = q_beg ψ (ψ 0 0) ∧ ∀ x, x ≠ a → x ≠ a + 1 → x ≠ a + 2 → f' x = f x := by
  unfold F_X5_begin
  simp only [m_gi hfa.1, m_pi ha.1, ax2_n _ _ _ _ hd, h0, h2]
  obtain ⟨f', e, g1, g2, g3⟩ := qc_begin_l (N := N) ha 8 0 N (ax2 (ax2 (ax2 (ax2 (ax2 (ax2 (ax2 (ax2 (ax2 (ax2 (ax2 (ax2 f a 0 (ψ 0 0)) a 1 (ψ 0 2)) a 2 0) a 3 0) a 4 0) a 5 0) a 6 0) a 7 0) a 8 0) a 9 0) a 10 0) a 11 0) (by omega) (by omega)
  have ea := g3 a (by omega) (by omega)
  refine ⟨f', e, rdSt_x ?_ (fun k hk => ?_) (fun k hk => ?_) (fun k hk => q_beg_z ψ _ (by omega) (by omega)), fun x p q s => by rw [g3 x q s]; simp only [ax2_n _ _ _ _ p]⟩
  · rw [ea]
    simp [ax2_a, q_beg]
  · rw [g1 k hk, if_pos (by omega), q_beg_b ψ _ hk]
  · rw [g2 k hk, if_pos (by omega), q_beg_z ψ _ (by omega) (by omega)]
theorem qm_begins_34 {a : Nat} (ha : axL Z a = some (1, 29)) : ∀ (n i fu : Nat) (f : Nat → Nat → Int32), i + n = 8 → n < fu → ∃ f', F_X10_begins_34 N fu a (Int32.ofNat i) (axM Z f) = some (axM Z f') ∧ (∀ k, k < 29 → f' a k = if 13 + i ≤ k ∧ k < 21 then Int32.ofNat (k - 13) else f a k) ∧ ∀ x, x ≠ a → f' x = f x := by
  intro n
  induction n with
  | zero =>
    intro i fu f hi hfu
    obtain ⟨fu, rfl⟩ : ∃ q, fu = q + 1 := ⟨fu - 1, by omega⟩
    show ∃ f', F_X10_begins_34b N (F_X10_begins_34 N fu) a (Int32.ofNat i) (axM Z f) = _ ∧ _
    unfold F_X10_begins_34b
    rw [if_pos (show (8 : Int32) ≤ Int32.ofNat i from qi_ge (i := 8) (by omega) (by omega))]
    exact ⟨f, rfl, fun k hk => by rw [if_neg (by omega)], fun _ _ => rfl⟩
  | succ n ih =>
    intro i fu f hi hfu
    obtain ⟨fu, rfl⟩ : ∃ q, fu = q + 1 := ⟨fu - 1, by omega⟩
    show ∃ f', F_X10_begins_34b N (F_X10_begins_34 N fu) a (Int32.ofNat i) (axM Z f) = _ ∧ _
    unfold F_X10_begins_34b
    rw [if_neg (show ¬ (8 : Int32) ≤ Int32.ofNat i from qi_nge (i := 8) (by omega) (by omega)), show (13 : Int32) + Int32.ofNat i = Int32.ofNat (13 + i) from qi_add 13 i, m_stn ha (show 13 + i < 29 by omega) (by omega), qi_s]
    obtain ⟨f', e, g1, g2⟩ := ih (i + 1) fu (ax2 f a (13 + i) (Int32.ofNat i)) (by omega) (by omega)
    refine ⟨f', e, fun k hk => ?_, fun x p => by rw [g2 x p, ax2_n _ _ _ _ p]⟩
    rw [g1 k hk, ax2_a]
    by_cases c1 : 13 + (i + 1) ≤ k ∧ k < 21
    · rw [if_pos c1, if_pos (by omega)]
    · rw [if_neg c1]
      by_cases c2 : k = 13 + i
      · rw [if_pos c2, if_pos (by omega), c2, Nat.add_sub_cancel_left]
      · rw [if_neg c2, if_neg (by omega)]
theorem qm_begins {a : Nat} (hN : 200 < N) (hm : LMo Z m) (ha : axL Z a = some (1, 29)) (hd : a ≠ m + 4) (o : Int32) (h2 : f (m + 4) 6 = ψ 0 2) : ∃ f', F_X10_begins N m a o (axM Z f) = some (axM Z f') ∧ rdM f' a = q_beg ψ o ∧ ∀ x, x ≠ a → f' x = f x := by
  have p12 : axP Z m 12 = some (m + 4) := hm.2.1 12 4 rfl
  have s4 : axL Z (m + 4) = some (1, 7) := hm.2.2.1 4 _ rfl
  have loop : ∀ (n i fu : Nat) (g : Nat → Nat → Int32), i + n = 29 → n < fu → (∀ x, x ≠ a → g x = f x) → (∀ k, k < i → g a k = 0) → ∃ f', F_X10_begins_2 N fu m a o (Int32.ofNat i) (axM Z g) = some (axM Z f') ∧ rdM f' a = q_beg ψ o ∧ ∀ x, x ≠ a → f' x = f x := by
    intro n
    induction n with
    | zero =>
      intro i fu g hi hfu hg hz
      obtain ⟨fu, rfl⟩ : ∃ q, fu = q + 1 := ⟨fu - 1, by omega⟩
      show ∃ f', F_X10_begins_2b N (F_X10_begins_2 N fu) m a o (Int32.ofNat i) (axM Z g) = _ ∧ _
      unfold F_X10_begins_2b
      rw [if_pos (show (29 : Int32) ≤ Int32.ofNat i from qi_ge (i := 29) (by omega) (by omega)), m_st29_0 ha, m_gr hm.1 p12, m_ld7_6 s4, ax2_n _ _ _ _ (Ne.symm hd), hg _ (Ne.symm hd), h2, m_st29_1 ha]
      obtain ⟨f', e, g1, g2⟩ := qm_begins_34 (N := N) ha 8 0 N (ax2 (ax2 g a 0 o) a 1 (ψ 0 2)) (by omega) (by omega)
      refine ⟨f', e, ?_, fun x hx => by rw [g2 x hx, ax2_n _ _ _ _ hx, ax2_n _ _ _ _ hx, hg x hx]⟩
      funext k
      unfold rdM
      by_cases ck : k < 29
      · rw [if_pos ck, g1 k ck, ax2_a, ax2_a]
        unfold q_beg
        by_cases c0 : k = 0
        · subst c0
          simp
        · by_cases c1 : k = 1
          · subst c1
            simp
          · by_cases c2 : 13 ≤ k ∧ k < 21
            · simp only [if_neg c0, if_neg c1, if_pos c2, if_pos (show 13 + 0 ≤ k ∧ k < 21 by omega)]
            · simp only [if_neg c0, if_neg c1, if_neg c2, if_neg (show ¬ (13 + 0 ≤ k ∧ k < 21) by omega), hz k (by omega)]
      · rw [if_neg ck, q_beg_z ψ _ (by omega) (by omega)]
    | succ n ih =>
      intro i fu g hi hfu hg hz
      obtain ⟨fu, rfl⟩ : ∃ q, fu = q + 1 := ⟨fu - 1, by omega⟩
      show ∃ f', F_X10_begins_2b N (F_X10_begins_2 N fu) m a o (Int32.ofNat i) (axM Z g) = _ ∧ _
      unfold F_X10_begins_2b
      rw [if_neg (show ¬ (29 : Int32) ≤ Int32.ofNat i from qi_nge (i := 29) (by omega) (by omega)), m_stn ha (show i < 29 by omega) (by omega), qi_s]
      exact ih (i + 1) fu (ax2 g a i 0) (by omega) (by omega) (fun x hx => by rw [ax2_n _ _ _ _ hx, hg x hx]) (fun k hk => by
        rw [ax2_a]
        by_cases c : k = i
        · rw [if_pos c]
        · rw [if_neg c]
          exact hz k (by omega))
  exact loop 29 0 N f (by omega) (by omega) (fun _ _ => rfl) (fun k hk => absurd hk (by omega))
/-- the class: whether all lines are right -/
theorem LCl.fi (h : LCl Z b fa sf la sl bo sb) : (axP Z b 16 = some (b + 88) ∧ axL Z (b + 88) = some (0, 2)) ∧ (axP Z (b + 88) 7 = some (b + 89) ∧ axL Z (b + 89) = some (1, 60)) ∧ (axP Z (b + 88) 8 = some (b + 90) ∧ axL Z (b + 90) = some (3, 60)) ∧ ∀ j, j < 60 → axP Z (b + 90) j = some (b + 91 + j) ∧ axL Z (b + 91 + j) = some (1, 1000) := by
  obtain ⟨h1, h2, h3, h4, h5⟩ := h.2.2.2.2.2.2.2.2.2.2.2.1
  exact ⟨⟨h1, h2⟩, h3, h4, h5⟩
theorem LCl.bk (h : LCl Z b fa sf la sl bo sb) : axP Z b 5 = some bo ∧ axL Z bo = some (0, 0) ∧ axP Z bo 0 = some (bo + 1) ∧ axL Z (bo + 1) = some (1, 60) := ⟨h.1.2.2.2.2.2.1, h.2.1.2.2.2.2.1.1, h.2.1.2.2.2.2.1.2.1, h.2.1.2.2.2.2.1.2.2⟩
theorem qc_right_l (hN : 200 < N) {β : QR} {nl : Nat} (o rt : Int32) : ∀ (n i fu : Nat) (f : Nat → Nat → Int32), i + n = 60 → n < fu → HC Z b fa sf la sl bo sb f ψ l r → clB f bo β nl → rdSt f (b + 34) = q_fr ψ l o rt i → (∀ j, j < i → f (b + 89) j = q_fs ψ l o rt j) → ∃ f', F_X9_isRight_21 N fu b rt (Int32.ofNat i) (axM Z f) = some (if q_allb (fun i => decide (β i = -1 ∨ β i = q_fs ψ l o rt i)) n i = true then 1 else 0, axM Z f') ∧ (q_allb (fun i => decide (β i = -1 ∨ β i = q_fs ψ l o rt i)) n i = true → ∀ j, j < 60 → f' (b + 89) j = q_fs ψ l o rt j) ∧ ∀ x, ¬ scC b x → x ≠ b + 89 → f' x = f x := by
  intro n
  induction n with
  | zero =>
    intro i fu f hi hfu h hB hρ hh
    obtain ⟨fu, rfl⟩ : ∃ q, fu = q + 1 := ⟨fu - 1, by omega⟩
    show ∃ f', F_X9_isRight_21b N (F_X9_isRight_21 N fu) b rt (Int32.ofNat i) (axM Z f) = _ ∧ _
    unfold F_X9_isRight_21b
    rw [if_pos (show (60 : Int32) ≤ Int32.ofNat i from qi_ge (i := 60) (by omega) (by omega)), m_rz1]
    exact ⟨f, rfl, fun _ j hj => hh j (by omega), fun _ _ _ => rfl⟩
  | succ n ih =>
    intro i fu f hi hfu h hB hρ hh
    obtain ⟨fu, rfl⟩ : ∃ q, fu = q + 1 := ⟨fu - 1, by omega⟩
    show ∃ f', F_X9_isRight_21b N (F_X9_isRight_21 N fu) b rt (Int32.ofNat i) (axM Z f) = _ ∧ _
    have hC := h.1
    have h0 := hC.1.1
    have p9 := hC.2.2.2.2.2.2.2.2.1
    have dbo := hC.2.2.2.2.1
    have dfa := hC.2.2.1
    obtain ⟨b1, b2, b3, b4⟩ := hC.bk
    obtain ⟨⟨k1, k2⟩, ⟨k3, k4⟩, -⟩ := hC.fi
    obtain ⟨f1, e1, g1, fr1⟩ := qc_str_t hN h hρ 0
    have h1 := h.sc fr1
    have hB1 : clB f1 bo β nl := hB.fx hC (fun x hx => fr1 x (fun z => hx (Or.inl z)))
    unfold F_X9_isRight_21b F_X9_isRight_66
    rw [if_neg (show ¬ (60 : Int32) ≤ Int32.ofNat i from qi_nge (i := 60) (by omega) (by omega)), m_gr h0 p9.1, m_is h0, e1, axB_s, m_gr h0 b1, m_gr b2 b3, m_atn N b4 (show i < 60 by omega) (by omega), axB_s, hB1.2 i (by omega)]
    have go : ∃ f', (ax_gr (axM Z f1) b 9 16 fun a1 => ax_gr (axM Z f1) a1 2 7 fun a2 => axBV (F_X9_put N a2 (Int32.ofNat i) (q_str l (q_fr ψ l o rt i) 0) (axM Z f1)) fun T3 => ax_gr T3 b 9 9 fun a5 => ax_gr T3 b 9 1 fun a6 => ax_is T3 a5 5 <| axBV (F_X5_turn N a5 (q_str l (q_fr ψ l o rt i) 0) a6 rt T3) fun T8 => F_X9_isRight_21 N fu b rt (Int32.ofNat i + 1) T8) = some (if q_allb (fun i => decide (β i = -1 ∨ β i = q_fs ψ l o rt i)) n (i + 1) = true then 1 else 0, axM Z f') ∧ (q_allb (fun i => decide (β i = -1 ∨ β i = q_fs ψ l o rt i)) n (i + 1) = true → ∀ j, j < 60 → f' (b + 89) j = q_fs ψ l o rt j) ∧ ∀ x, ¬ scC b x → x ≠ b + 89 → f' x = f x := by
      have F2 : ∀ x, ¬ scF b x → ax2 f1 (b + 89) i (q_str l (q_fr ψ l o rt i) 0) x = f x := fun x hx => by
        rw [ax2_n _ _ _ _ (by unfold scF at hx; omega), fr1 x (fun z => hx (Or.inl z))]
      have h2 := h.fx F2
      have hz := q_fz_fr ψ l o rt i
      have g2 : rdSt (ax2 f1 (b + 89) i (q_str l (q_fr ψ l o rt i) 0)) (b + 34) = q_fr ψ l o rt i := by rw [rdSt_n _ _ (by omega), g1]
      obtain ⟨f3, e3, g3, fr3⟩ := qc_turn (N := N) (B := 1000) (rate := rt) (s := q_str l (q_fr ψ l o rt i) 0) (f := ax2 f1 (b + 89) i (q_str l (q_fr ψ l o rt i) 0)) p9.2 hC.2.1.1 (by omega) (fun k hk => rdF_1 h2.2.1 hk) ⟨i, by omega, by rw [g2]; exact hz.2.2.2.2.2.2.2⟩ (by omega) (by rw [g2]; exact Or.inl ⟨hz.2.2.1, hz.2.2.2.1⟩)
      rw [g2] at g3
      have F3 : ∀ x, ¬ scC b x → x ≠ b + 89 → f3 x = f x := fun x p q => by
        rw [fr3 x (by unfold scC at p; omega), ax2_n _ _ _ _ q, fr1 x p]
      have F3' : ∀ x, ¬ scF b x → f3 x = f x := fun x hx => F3 x (fun z => hx (Or.inl z)) (by unfold scF at hx; omega)
      rw [m_gr h0 k1, m_gr k2 k3, m_putn N k4 (show i < 60 by omega) (by omega), axBV_s, m_gr h0 p9.1, m_gr h0 hC.1.2.1, m_is p9.2.1, e3, axBV_s, qi_s]
      obtain ⟨f4, e4, r4, fr4⟩ := ih (i + 1) fu f3 (by omega) (by omega) (h.fx F3') (hB.fx hC F3') (by rw [g3]; rfl) (fun j hj => by
        rw [fr3 _ (by omega), ax2_a]
        by_cases c : j = i
        · rw [if_pos c, c]
          rfl
        · rw [if_neg c, fr1 _ (by unfold scC; omega)]
          exact hh j (by omega))
      exact ⟨f4, e4, r4, fun x p q => by rw [fr4 x p q, F3 x p q]⟩
    show ∃ f', _ = some (if (if decide (β i = -1 ∨ β i = q_fs ψ l o rt i) = true then q_allb (fun i => decide (β i = -1 ∨ β i = q_fs ψ l o rt i)) n (i + 1) else false) = true then 1 else 0, axM Z f') ∧ ((if decide (β i = -1 ∨ β i = q_fs ψ l o rt i) = true then q_allb (fun i => decide (β i = -1 ∨ β i = q_fs ψ l o rt i)) n (i + 1) else false) = true → _) ∧ _
    by_cases c1 : β i = -1
    · simp only [if_pos (show decide (β i = -1 ∨ β i = q_fs ψ l o rt i) = true from decide_eq_true (Or.inl c1))]
      rw [if_pos c1]
      exact go
    · rw [if_neg c1]
      by_cases c2 : β i = q_str l (q_fr ψ l o rt i) 0
      · simp only [if_pos (show decide (β i = -1 ∨ β i = q_fs ψ l o rt i) = true from decide_eq_true (Or.inr c2))]
        rw [if_pos c2]
        exact go
      · simp only [if_neg (show ¬ decide (β i = -1 ∨ β i = q_fs ψ l o rt i) = true from fun z => (of_decide_eq_true z).elim c1 c2)]
        rw [if_neg c2, m_rz0]
        exact ⟨f1, rfl, (fun z => by cases z), fun x p q => fr1 x p⟩
theorem qc_isRight (hN : 200 < N) {β : QR} {nl : Nat} (h : HC Z b fa sf la sl bo sb f ψ l r) (hB : clB f bo β nl) (o rt : Int32) : ∃ f', F_X9_isRight N b o rt (axM Z f) = some (if q_right β (q_fs ψ l o rt) = true then 1 else 0, axM Z f') ∧ (q_right β (q_fs ψ l o rt) = true → ∀ j, j < 60 → f' (b + 89) j = q_fs ψ l o rt j) ∧ ∀ x, ¬ scC b x → x ≠ b + 89 → f' x = f x := by
  have hC := h.1
  have h0 := hC.1.1
  have p9 := hC.2.2.2.2.2.2.2.2.1
  have dfa := hC.2.2.1
  unfold F_X9_isRight
  obtain ⟨f1, e1, g1, fr1⟩ := qc_begin (N := N) (f := f) hN p9.2 hC.2.1.1 (by omega) (rdF_0 h.2.1 (by omega)) (rdF_0 h.2.1 (by omega))
  have F1 : ∀ x, ¬ scC b x → ax2 f1 (b + 34) 0 o x = f x := fun x hx => by
    unfold scC at hx
    rw [ax2_n _ _ _ _ (by omega), fr1 x (by omega) (by omega) (by omega)]
  rw [m_gr h0 p9.1, m_gr h0 hC.1.2.1, m_is p9.2.1, e1, axBV_s, m_gr h0 p9.1, m_pi p9.2.1]
  obtain ⟨f2, e2, r2, fr2⟩ := qc_right_l (N := N) hN o rt 60 0 N (ax2 f1 (b + 34) 0 o) (by omega) (by omega) (h.sc F1) (hB.fx hC (fun x hx => F1 x (fun z => hx (Or.inl z)))) (by rw [rdSt_w0, g1, q_beg_s]; rfl) (fun j hj => absurd hj (by omega))
  exact ⟨f2, e2, r2, fun x p q => by rw [fr2 x p q, F1 x p]⟩
end
