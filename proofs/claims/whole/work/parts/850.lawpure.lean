/-! the law: what a text says -/
abbrev QO2 : Type := Sum (Int32 × Int32) (QL × Nat)
def q_bd {α β : Type} (o : Sum (Int32 × Int32) α) (K : α → Sum (Int32 × Int32) β) : Sum (Int32 × Int32) β := match o with
  | .inl z => .inl z
  | .inr a => K a
def q_tk (t : QR) (n : Nat) (c : Int32) (p : Nat) : Sum (Int32 × Int32) Nat := if q_B t n (q_bl t n p) = c then .inr (q_bl t n p + 1) else .inl (1, Int32.ofNat (q_bl t n p))
def q_V (i : Nat) : List Nat := match i with
  | 0 => q_least
  | 1 => q_mostw
  | 2 => q_asksw
  | 3 => q_paid
  | 4 => q_nightw
  | 5 => q_quietw
  | 6 => q_wax
  | 7 => q_storm
  | 8 => q_chest
  | _ => []
theorem q_V_x : ∀ i, i < 9 → ∀ j, j < 9 → i ≠ j → (q_V i).length ≠ (q_V j).length ∨ ∃ k, k < (q_V i).length ∧ Int32.ofNat (96 + q_cs (q_V i) k) ≠ Int32.ofNat (96 + q_cs (q_V j) k) := by
  decide +kernel
theorem q_V_let : ∀ i, i < 9 → q_let (q_V i) := by
  unfold q_let
  decide +kernel
theorem q_V_txt : ∀ i, i < 9 → q_txt (i + 9) (q_V i) := by
  unfold q_txt
  decide +kernel
theorem q_V_len : ∀ i, i < 9 → 1 ≤ (q_V i).length := by decide
/-- no letter, no word -/
theorem q_isw_0 {t : QR} {n s : Nat} {cs : List Nat} (hs : s ≤ n) (hc : 1 ≤ cs.length) (hb : ¬ q_isL (q_B t n s) = true) : ¬ q_isw t s (q_wrl t n s) cs = true := by
  intro q
  have h := (q_isw_iff t s _ cs).mp q
  have e : q_wrl t n s = s := by
    by_cases c : s < n
    · exact q_skp_f c (by rwa [show q_B t n s = t s from if_pos c] at hb)
    · exact q_skp_n _ _ (by omega)
  rw [e] at h
  omega
theorem q_isw_l {t : QR} {n s : Nat} {cs : List Nat} (hs : s ≤ n) (hc : 1 ≤ cs.length) (q : q_isw t s (q_wrl t n s) cs = true) : s < q_wrl t n s := by
  have h := (q_isw_iff t s _ cs).mp q
  omega
def q_kv (t : QR) (s e : Nat) : Int32 := if q_isw t s e (q_V 2) = true then 0 else if q_isw t s e (q_V 3) = true then 1 else if q_isw t s e (q_V 4) = true then 2 else if q_isw t s e (q_V 5) = true then 3 else if q_isw t s e (q_V 6) = true then 4 else if q_isw t s e (q_V 7) = true then 5 else if q_isw t s e (q_V 8) = true then 6 else -1
def q_two (kr : Nat → QO2) (t : QR) (n e : Nat) (h : Int32) : QO2 := q_bd (q_tk t n 91 e) fun p1 => q_bd (kr p1) fun a => q_bd (q_tk t n 44 a.2) fun p2 => q_bd (kr p2) fun c => q_bd (q_tk t n 93 c.2) fun p3 => .inr (a.1 ++ (c.1 ++ [(h, 0)]), p3)
def q_par (kr : Nat → QO2) (t : QR) (n p : Nat) : QO2 := q_bd (kr p) fun a => q_bd (q_tk t n 41 a.2) fun p3 => .inr (a.1, p3)
def q_un (kr : Nat → QO2) (t : QR) (n op p : Nat) : QO2 :=
  if q_isD (q_B t n (q_bl t n p)) = true then (if q_nb t n p 0 999 = true then .inr ([(0, Int32.ofNat (q_num t n (q_bl t n p)))], q_dgt t n (q_bl t n p)) else .inl (q_nfk t n p, Int32.ofNat (q_bl t n p)))
  else if q_B t n (q_bl t n p) = 40 then (if 6 ≤ op then .inl (3, Int32.ofNat (q_bl t n p)) else q_par kr t n (q_bl t n p + 1))
  else if q_isw t (q_bl t n p) (q_wrl t n (q_bl t n p)) (q_V 0) = true then (if 6 ≤ op then .inl (3, Int32.ofNat (q_bl t n p)) else q_two kr t n (q_wrl t n (q_bl t n p)) 7)
  else if q_isw t (q_bl t n p) (q_wrl t n (q_bl t n p)) (q_V 1) = true then (if 6 ≤ op then .inl (3, Int32.ofNat (q_bl t n p)) else q_two kr t n (q_wrl t n (q_bl t n p)) 8)
  else if q_kv t (q_bl t n p) (q_wrl t n (q_bl t n p)) = -1 then .inl (1, Int32.ofNat (q_bl t n p))
  else .inr ([(1, q_kv t (q_bl t n p) (q_wrl t n (q_bl t n p)))], q_wrl t n (q_bl t n p))
def q_sP (b : Int32) : Int32 := if b = 42 then 4 else if b = 47 then 5 else if b = 37 then 6 else -1
def q_sS (b : Int32) : Int32 := if b = 43 then 2 else if b = 45 then 3 else -1
def q_lp (sg : Int32 → Int32) (un : Nat → QO2) (t : QR) (n : Nat) : Nat → Nat → QO2
  | 0, p => .inr ([], q_bl t n p)
  | k + 1, p => if sg (q_B t n (q_bl t n p)) = -1 then .inr ([], q_bl t n p) else q_bd (un (q_bl t n p + 1)) fun a => q_bd (q_lp sg un t n k a.2) fun c => .inr (a.1 ++ ((sg (q_B t n (q_bl t n p)), 0) :: c.1), c.2)
def q_ch (sg : Int32 → Int32) (un : Nat → QO2) (t : QR) (n p : Nat) : QO2 := q_bd (un p) fun a => q_bd (q_lp sg un t n 150 a.2) fun c => .inr (a.1 ++ c.1, c.2)
def q_PR (kr : Nat → QO2) (t : QR) (n op p : Nat) : QO2 := q_ch q_sP (fun p => q_un kr t n op p) t n p
def q_SM (t : QR) (n : Nat) : Nat → Nat → Nat → QO2
  | 0, _, _ => .inl (1, 0)
  | d + 1, op, p => q_ch q_sS (fun p => q_PR (fun p => q_SM t n d (op + 1) p) t n op p) t n p
/-- what is known of what is read -/
def q_ft (D p n : Nat) (o : QO2) : Prop := (∀ z, o = .inl z → z.1 ≠ 0) ∧ ∀ z, o = .inr z → z.1.length + p ≤ z.2 ∧ p < z.2 ∧ z.2 ≤ n ∧ ∀ rest d, d + D ≤ 32 → q_wf rest (d + 1) → q_wf (z.1 ++ rest) d
section
variable {t : QR} {n p op D : Nat} {kr un : Nat → QO2} {sg : Int32 → Int32}
theorem q_bd_l {α β : Type} {o : Sum (Int32 × Int32) α} {K : α → Sum (Int32 × Int32) β} {z : Int32 × Int32} (e : o = .inl z) : q_bd o K = .inl z := by
  rw [e]
  rfl
theorem q_bd_r {α β : Type} {o : Sum (Int32 × Int32) α} {K : α → Sum (Int32 × Int32) β} {z : α} (e : o = .inr z) : q_bd o K = K z := by
  rw [e]
  rfl
theorem q_ft_l {z : Int32 × Int32} (h : z.1 ≠ 0) : q_ft D p n (.inl z) := ⟨fun y e => (by cases e; exact h), fun y e => (by cases e)⟩
theorem q_ft_r {z : QL × Nat} (h : z.1.length + p ≤ z.2 ∧ p < z.2 ∧ z.2 ≤ n ∧ ∀ rest d, d + D ≤ 32 → q_wf rest (d + 1) → q_wf (z.1 ++ rest) d) : q_ft D p n (.inr z) := ⟨fun y e => (by cases e), fun y e => (by cases e; exact h)⟩
theorem q_tk_f {c : Int32} (hc : c ≠ -1) (hp : p ≤ n) : (∀ z, q_tk t n c p = .inl z → z.1 ≠ 0) ∧ ∀ z, q_tk t n c p = .inr z → p < z ∧ z ≤ n := by
  have hb := (q_skp_b q_isB t hp).1
  change p ≤ q_bl t n p at hb
  unfold q_tk
  by_cases e : q_B t n (q_bl t n p) = c
  · obtain ⟨hl, -⟩ := q_B_lt hc e
    rw [if_pos e]
    exact ⟨fun z h => (by cases h), fun z h => (by cases h; omega)⟩
  · rw [if_neg e]
    exact ⟨fun z h => (by cases h; exact (show ¬ (1 : Int32) = 0 by decide)), fun z h => (by cases h)⟩
theorem q_par_f (hk : ∀ p, p ≤ n → q_ft D p n (kr p)) (hp : p ≤ n) : q_ft D p n (q_par kr t n p) := by
  unfold q_par
  rcases e1 : kr p with z | a
  · rw [q_bd_l rfl]
    exact q_ft_l ((hk p hp).1 z e1)
  · rw [q_bd_r rfl]
    obtain ⟨a1, a2, a3, a4⟩ := (hk p hp).2 a e1
    rcases e2 : q_tk t n 41 a.2 with z | y
    · rw [q_bd_l rfl]
      exact q_ft_l ((q_tk_f (by decide) a3).1 z e2)
    · rw [q_bd_r rfl]
      obtain ⟨b1, b2⟩ := (q_tk_f (by decide) a3).2 y e2
      exact q_ft_r ⟨by show a.1.length + p ≤ y; omega, by show p < y; omega, b2, a4⟩
theorem q_two_f (hk : ∀ p, p ≤ n → q_ft D p n (kr p)) (hp : p ≤ n) {h : Int32} (hh : 2 ≤ h ∧ h ≤ 8) : q_ft (D + 1) p n (q_two kr t n p h) := by
  unfold q_two
  rcases e0 : q_tk t n 91 p with z | p1
  · rw [q_bd_l rfl]
    exact q_ft_l ((q_tk_f (by decide) hp).1 z e0)
  rw [q_bd_r rfl]
  obtain ⟨g1, g2⟩ := (q_tk_f (by decide) hp).2 p1 e0
  rcases e1 : kr p1 with z | a
  · rw [q_bd_l rfl]
    exact q_ft_l ((hk p1 g2).1 z e1)
  rw [q_bd_r rfl]
  obtain ⟨a1, a2, a3, a4⟩ := (hk p1 g2).2 a e1
  rcases e2 : q_tk t n 44 a.2 with z | p2
  · rw [q_bd_l rfl]
    exact q_ft_l ((q_tk_f (by decide) a3).1 z e2)
  rw [q_bd_r rfl]
  obtain ⟨b1, b2⟩ := (q_tk_f (by decide) a3).2 p2 e2
  rcases e3 : kr p2 with z | c
  · rw [q_bd_l rfl]
    exact q_ft_l ((hk p2 b2).1 z e3)
  rw [q_bd_r rfl]
  obtain ⟨c1, c2, c3, c4⟩ := (hk p2 b2).2 c e3
  rcases e4 : q_tk t n 93 c.2 with z | p3
  · rw [q_bd_l rfl]
    exact q_ft_l ((q_tk_f (by decide) c3).1 z e4)
  rw [q_bd_r rfl]
  obtain ⟨d1, d2⟩ := (q_tk_f (by decide) c3).2 p3 e4
  refine q_ft_r ⟨?_, by show p < p3; omega, d2, fun rest d hd hr => ?_⟩
  · show (a.1 ++ (c.1 ++ [(h, 0)])).length + p ≤ p3
    rw [List.length_append, List.length_append]
    show a.1.length + (c.1.length + 1) + p ≤ p3
    omega
  · show q_wf ((a.1 ++ (c.1 ++ [(h, 0)])) ++ rest) d
    rw [List.append_assoc, List.append_assoc]
    refine a4 _ d (by omega) (c4 _ (d + 1) (by omega) ?_)
    exact Or.inr (Or.inr ⟨hh, by omega, hr⟩)
theorem q_kv_b (t : QR) (s e : Nat) : q_kv t s e = -1 ∨ (∃ i, 2 ≤ i ∧ i < 9 ∧ q_isw t s e (q_V i) = true) ∧ 0 ≤ q_kv t s e ∧ q_kv t s e ≤ 6 := by
  unfold q_kv
  by_cases c2 : q_isw t s e (q_V 2) = true
  · rw [if_pos c2]
    exact Or.inr ⟨⟨2, by omega, by omega, c2⟩, by decide, by decide⟩
  rw [if_neg c2]
  by_cases c3 : q_isw t s e (q_V 3) = true
  · rw [if_pos c3]
    exact Or.inr ⟨⟨3, by omega, by omega, c3⟩, by decide, by decide⟩
  rw [if_neg c3]
  by_cases c4 : q_isw t s e (q_V 4) = true
  · rw [if_pos c4]
    exact Or.inr ⟨⟨4, by omega, by omega, c4⟩, by decide, by decide⟩
  rw [if_neg c4]
  by_cases c5 : q_isw t s e (q_V 5) = true
  · rw [if_pos c5]
    exact Or.inr ⟨⟨5, by omega, by omega, c5⟩, by decide, by decide⟩
  rw [if_neg c5]
  by_cases c6 : q_isw t s e (q_V 6) = true
  · rw [if_pos c6]
    exact Or.inr ⟨⟨6, by omega, by omega, c6⟩, by decide, by decide⟩
  rw [if_neg c6]
  by_cases c7 : q_isw t s e (q_V 7) = true
  · rw [if_pos c7]
    exact Or.inr ⟨⟨7, by omega, by omega, c7⟩, by decide, by decide⟩
  rw [if_neg c7]
  by_cases c8 : q_isw t s e (q_V 8) = true
  · rw [if_pos c8]
    exact Or.inr ⟨⟨8, by omega, by omega, c8⟩, by decide, by decide⟩
  rw [if_neg c8]
  exact Or.inl rfl
theorem q_ft_w {D' p' : Nat} {o : QO2} (h : q_ft D p n o) (hD : D ≤ D') (hp : p' ≤ p) : q_ft D' p' n o := ⟨h.1, fun z e => by
  obtain ⟨a, b, c, d⟩ := h.2 z e
  exact ⟨by omega, by omega, c, fun rest x hx hr => d rest x (by omega) hr⟩⟩
theorem q_un_f (hk : op < 6 → ∀ p, p ≤ n → q_ft D p n (kr p)) (hp : p ≤ n) : q_ft (D + 1) p n (q_un kr t n op p) := by
  obtain ⟨h1, h2, -⟩ := q_skp_b q_isB t hp
  change p ≤ q_bl t n p at h1
  change q_bl t n p ≤ n at h2
  obtain ⟨w1, w2, -⟩ := q_skp_b q_isL t h2
  change q_bl t n p ≤ q_wrl t n (q_bl t n p) at w1
  change q_wrl t n (q_bl t n p) ≤ n at w2
  have h3 : (3 : Int32) ≠ 0 := by decide
  unfold q_un
  by_cases c1 : q_isD (q_B t n (q_bl t n p)) = true
  · rw [if_pos c1]
    obtain ⟨d1, d2, -⟩ := q_skp_b q_isD t h2
    change q_bl t n p ≤ q_dgt t n (q_bl t n p) at d1
    change q_dgt t n (q_bl t n p) ≤ n at d2
    by_cases c2 : q_nok t n p 0 999
    · rw [if_pos (q_nb_t c2)]
      have hl : q_bl t n p < q_dgt t n (q_bl t n p) := by
        have hlt : q_bl t n p < n := by
          refine Nat.lt_of_not_le fun q => ?_
          rw [show q_B t n (q_bl t n p) = -1 from if_neg (by omega)] at c1
          exact absurd c1 (by decide)
        rw [show q_B t n (q_bl t n p) = t (q_bl t n p) from if_pos hlt] at c1
        have e := q_skp_s (P := q_isD) (t := t) hlt c1
        have g := (q_skp_b q_isD t (show q_bl t n p + 1 ≤ n by omega)).1
        unfold q_dgt
        rw [e]
        omega
      refine q_ft_r ⟨?_, by show p < q_dgt t n (q_bl t n p); omega, d2, fun rest d hd hr => Or.inl ⟨rfl, ⟨?_, c2.2.2⟩, by omega, hr⟩⟩
      · show 1 + p ≤ q_dgt t n (q_bl t n p)
        omega
      · exact c2.2.1
    · rw [if_neg (q_nb_f c2)]
      exact q_ft_l (q_nfk_z _ _ _)
  rw [if_neg c1]
  by_cases c2 : q_B t n (q_bl t n p) = 40
  · rw [if_pos c2]
    obtain ⟨hl, -⟩ := q_B_lt (by decide) c2
    by_cases c3 : 6 ≤ op
    · rw [if_pos c3]
      exact q_ft_l h3
    · rw [if_neg c3]
      exact q_ft_w (q_par_f (hk (by omega)) (show q_bl t n p + 1 ≤ n by omega)) (by omega) (by omega)
  rw [if_neg c2]
  by_cases c4 : q_isw t (q_bl t n p) (q_wrl t n (q_bl t n p)) (q_V 0) = true
  · rw [if_pos c4]
    by_cases c3 : 6 ≤ op
    · rw [if_pos c3]
      exact q_ft_l h3
    · rw [if_neg c3]
      exact q_ft_w (q_two_f (hk (by omega)) w2 (by decide)) (by omega) (by omega)
  rw [if_neg c4]
  by_cases c5 : q_isw t (q_bl t n p) (q_wrl t n (q_bl t n p)) (q_V 1) = true
  · rw [if_pos c5]
    by_cases c3 : 6 ≤ op
    · rw [if_pos c3]
      exact q_ft_l h3
    · rw [if_neg c3]
      exact q_ft_w (q_two_f (hk (by omega)) w2 (by decide)) (by omega) (by omega)
  rw [if_neg c5]
  rcases q_kv_b t (q_bl t n p) (q_wrl t n (q_bl t n p)) with c6 | ⟨⟨i, i1, i2, i3⟩, k1, k2⟩
  · rw [if_pos c6]
    exact q_ft_l (show ¬ (1 : Int32) = 0 by decide)
  · have hl := q_isw_l h2 (q_V_len i i2) i3
    rw [if_neg (fun q => by rw [q] at k1; exact absurd k1 (by decide))]
    refine q_ft_r ⟨?_, by show p < q_wrl t n (q_bl t n p); omega, w2, fun rest d hd hr => Or.inr (Or.inl ⟨rfl, ⟨k1, k2⟩, by omega, hr⟩)⟩
    show 1 + p ≤ q_wrl t n (q_bl t n p)
    omega
theorem q_lp_f (hu : ∀ p, p ≤ n → q_ft D p n (un p)) (hs : ∀ b, sg b = -1 ∨ (2 ≤ sg b ∧ sg b ≤ 8)) (h1 : sg (-1) = -1) : ∀ k p, p ≤ n → (∀ z, q_lp sg un t n k p = .inl z → z.1 ≠ 0) ∧ ∀ z, q_lp sg un t n k p = .inr z → z.1.length + p ≤ z.2 ∧ z.2 ≤ n ∧ ∀ rest d, d + (D + 1) ≤ 32 → q_wf rest (d + 1) → q_wf (z.1 ++ rest) (d + 1) := by
  intro k
  induction k with
  | zero =>
    intro p hp
    obtain ⟨b1, b2, -⟩ := q_skp_b q_isB t hp
    refine ⟨fun z e => (by cases e), fun z e => ?_⟩
    cases e
    exact ⟨by show 0 + p ≤ q_bl t n p; change p ≤ q_bl t n p at b1; omega, b2, fun rest d _ hr => hr⟩
  | succ k ih =>
    intro p hp
    obtain ⟨b1, b2, -⟩ := q_skp_b q_isB t hp
    change p ≤ q_bl t n p at b1
    change q_bl t n p ≤ n at b2
    unfold q_lp
    by_cases c : sg (q_B t n (q_bl t n p)) = -1
    · rw [if_pos c]
      refine ⟨fun z e => (by cases e), fun z e => ?_⟩
      cases e
      exact ⟨by show 0 + p ≤ q_bl t n p; omega, b2, fun rest d _ hr => hr⟩
    · rw [if_neg c]
      have hlt : q_bl t n p < n := by
        refine Nat.lt_of_not_le fun q => c ?_
        rw [show q_B t n (q_bl t n p) = -1 from if_neg (by omega), h1]
      rcases e1 : un (q_bl t n p + 1) with z | a
      · rw [q_bd_l rfl]
        exact ⟨fun y e => (by cases e; exact (hu _ (by omega)).1 z e1), fun y e => (by cases e)⟩
      rw [q_bd_r rfl]
      obtain ⟨a1, a2, a3, a4⟩ := (hu _ (by omega)).2 a e1
      obtain ⟨i1, i2⟩ := ih a.2 a3
      rcases e2 : q_lp sg un t n k a.2 with z | y
      · rw [q_bd_l rfl]
        exact ⟨fun y e => (by cases e; exact i1 z e2), fun y e => (by cases e)⟩
      rw [q_bd_r rfl]
      obtain ⟨y1, y2, y3⟩ := i2 y e2
      refine ⟨fun z e => (by cases e), fun z e => ?_⟩
      cases e
      refine ⟨?_, y2, fun rest d hd hr => ?_⟩
      · show (a.1 ++ ((sg (q_B t n (q_bl t n p)), 0) :: y.1)).length + p ≤ y.2
        rw [List.length_append, List.length_cons]
        omega
      · show q_wf ((a.1 ++ ((sg (q_B t n (q_bl t n p)), 0) :: y.1)) ++ rest) (d + 1)
        rw [List.append_assoc]
        refine a4 _ (d + 1) (by omega) ?_
        exact Or.inr (Or.inr ⟨(hs _).resolve_left c, by omega, y3 rest d hd hr⟩)
theorem q_ch_f (hu : ∀ p, p ≤ n → q_ft D p n (un p)) (hs : ∀ b, sg b = -1 ∨ (2 ≤ sg b ∧ sg b ≤ 8)) (h1 : sg (-1) = -1) (hp : p ≤ n) : q_ft (D + 1) p n (q_ch sg un t n p) := by
  unfold q_ch
  rcases e1 : un p with z | a
  · rw [q_bd_l rfl]
    exact q_ft_l ((hu _ hp).1 z e1)
  rw [q_bd_r rfl]
  obtain ⟨a1, a2, a3, a4⟩ := (hu _ hp).2 a e1
  obtain ⟨i1, i2⟩ := q_lp_f (t := t) hu hs h1 150 a.2 a3
  rcases e2 : q_lp sg un t n 150 a.2 with z | y
  · rw [q_bd_l rfl]
    exact q_ft_l (i1 z e2)
  rw [q_bd_r rfl]
  obtain ⟨y1, y2, y3⟩ := i2 y e2
  refine q_ft_r ⟨?_, by show p < y.2; omega, y2, fun rest d hd hr => ?_⟩
  · show (a.1 ++ y.1).length + p ≤ y.2
    rw [List.length_append]
    omega
  · show q_wf ((a.1 ++ y.1) ++ rest) d
    rw [List.append_assoc]
    exact a4 _ d (by omega) (y3 rest d hd hr)
theorem q_sP_b (b : Int32) : q_sP b = -1 ∨ (2 ≤ q_sP b ∧ q_sP b ≤ 8) := by
  unfold q_sP
  by_cases c : b = 42
  · rw [if_pos c]; exact Or.inr ⟨by decide, by decide⟩
  rw [if_neg c]
  by_cases c : b = 47
  · rw [if_pos c]; exact Or.inr ⟨by decide, by decide⟩
  rw [if_neg c]
  by_cases c : b = 37
  · rw [if_pos c]; exact Or.inr ⟨by decide, by decide⟩
  rw [if_neg c]
  exact Or.inl rfl
theorem q_sS_b (b : Int32) : q_sS b = -1 ∨ (2 ≤ q_sS b ∧ q_sS b ≤ 8) := by
  unfold q_sS
  by_cases c : b = 43
  · rw [if_pos c]; exact Or.inr ⟨by decide, by decide⟩
  rw [if_neg c]
  by_cases c : b = 45
  · rw [if_pos c]; exact Or.inr ⟨by decide, by decide⟩
  rw [if_neg c]
  exact Or.inl rfl
theorem q_PR_f (hk : op < 6 → ∀ p, p ≤ n → q_ft D p n (kr p)) (hp : p ≤ n) : q_ft (D + 2) p n (q_PR kr t n op p) := q_ch_f (fun _ h => q_un_f hk h) q_sP_b (by decide) hp
theorem q_SM_f : ∀ d op p, op ≤ 6 → 7 ≤ d + op → p ≤ n → q_ft (3 * (7 - op)) p n (q_SM t n d op p) := by
  intro d
  induction d with
  | zero => intro op p h1 h2; omega
  | succ d ih =>
    intro op p h1 h2 hp
    unfold q_SM
    have hk : op < 6 → ∀ p, p ≤ n → q_ft (3 * (6 - op)) p n (q_SM t n d (op + 1) p) := fun h p hp => by
      have := ih (op + 1) p (by omega) (by omega) hp
      rwa [show 7 - (op + 1) = 6 - op by omega] at this
    have r := q_ch_f (t := t) (fun p hp => q_PR_f (t := t) (p := p) hk hp) q_sS_b (by decide) hp
    rwa [show 3 * (6 - op) + 2 + 1 = 3 * (7 - op) by omega] at r
end
