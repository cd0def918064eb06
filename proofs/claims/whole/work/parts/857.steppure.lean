/-! steps: what a text says -/
abbrev QE : Type := Nat × Nat × Nat × Option Nat
abbrev QO5 : Type := Sum (Int32 × Int32) (List QE × Nat)
def q_U (i : Nat) : List Nat := match i with
  | 0 => q_payw
  | 1 => q_almsw
  | 2 => q_wax
  | 3 => q_recw
  | 4 => q_swapw
  | 5 => q_nightw
  | 6 => q_again
  | _ => []
theorem q_U_let : ∀ i, i < 7 → q_let (q_U i) := by
  unfold q_let
  decide +kernel
theorem q_U_txt : ∀ i, i < 7 → q_txt (i + 18) (q_U i) := by
  unfold q_txt
  decide +kernel
theorem q_U_len : ∀ i, i < 7 → 1 ≤ (q_U i).length := by decide
def q_kd (t : QR) (s e : Nat) : Nat := if q_isw t s e (q_U 0) = true then 0 else if q_isw t s e (q_U 1) = true then 1 else if q_isw t s e (q_U 2) = true then 2 else if q_isw t s e (q_U 3) = true then 3 else if q_isw t s e (q_U 4) = true then 4 else if q_isw t s e (q_U 5) = true then 5 else if q_isw t s e (q_U 6) = true then 6 else 7
theorem q_kd_b (t : QR) (s e : Nat) : q_kd t s e = 7 ∨ (q_kd t s e < 7 ∧ q_isw t s e (q_U (q_kd t s e)) = true) := by
  unfold q_kd
  by_cases c0 : q_isw t s e (q_U 0) = true
  · rw [if_pos c0]; exact Or.inr ⟨by omega, c0⟩
  rw [if_neg c0]
  by_cases c1 : q_isw t s e (q_U 1) = true
  · rw [if_pos c1]; exact Or.inr ⟨by omega, c1⟩
  rw [if_neg c1]
  by_cases c2 : q_isw t s e (q_U 2) = true
  · rw [if_pos c2]; exact Or.inr ⟨by omega, c2⟩
  rw [if_neg c2]
  by_cases c3 : q_isw t s e (q_U 3) = true
  · rw [if_pos c3]; exact Or.inr ⟨by omega, c3⟩
  rw [if_neg c3]
  by_cases c4 : q_isw t s e (q_U 4) = true
  · rw [if_pos c4]; exact Or.inr ⟨by omega, c4⟩
  rw [if_neg c4]
  by_cases c5 : q_isw t s e (q_U 5) = true
  · rw [if_pos c5]; exact Or.inr ⟨by omega, c5⟩
  rw [if_neg c5]
  by_cases c6 : q_isw t s e (q_U 6) = true
  · rw [if_pos c6]; exact Or.inr ⟨by omega, c6⟩
  rw [if_neg c6]
  exact Or.inl rfl
/-- one number -/
def q_nu1 (t : QR) (n : Nat) (lo hi : Int32) (p : Nat) : Sum (Int32 × Int32) (Nat × Nat) := if q_nb t n p lo hi = true then .inr (q_num t n (q_bl t n p), q_dgt t n (q_bl t n p)) else .inl (q_nfk t n p, Int32.ofNat (q_bl t n p))
/-- the numbers of a step of kind k -/
def q_nu (t : QR) (n : Nat) (ψ : QF) (k p : Nat) : Sum (Int32 × Int32) (Nat × Nat × Nat) :=
  if k = 0 ∨ k = 3 then q_bd (q_nu1 t n 1 999 p) fun a => .inr (a.1, 0, a.2)
  else if k = 1 then q_bd (q_nu1 t n 0 (ψ 0 3 - 1) p) fun a => .inr (a.1, 0, a.2)
  else if k = 4 then q_bd (q_nu1 t n 0 (ψ 0 5 - 1) p) fun a => q_bd (q_nu1 t n 0 (ψ 0 5 - 1) a.2) fun c => .inr (a.1, c.1, c.2)
  else if k = 6 then q_bd (q_nu1 t n 0 30 p) fun a => .inr (a.1, 0, a.2)
  else .inr (0, 0, p)
def q_stp (kr : Nat → Nat → QO5) (t : QR) (n : Nat) (ψ : QF) (op len s : Nat) : QO5 :=
  if q_kd t s (q_wrl t n s) = 7 then .inl (1, Int32.ofNat s)
  else if q_kd t s (q_wrl t n s) = 6 ∧ 6 ≤ op then .inl (3, Int32.ofNat s)
  else q_bd (q_nu t n ψ (q_kd t s (q_wrl t n s)) (q_wrl t n s)) fun v =>
    if q_kd t s (q_wrl t n s) = 6 then q_bd (q_tk t n 91 v.2.2) fun p2 => q_bd (kr (len + 1) p2) fun C => q_bd (q_tk t n 93 C.2) fun p3 => q_bd (q_tk t n 59 p3) fun p4 => .inr ((6, v.1, 0, some (len + 1 + C.1.length)) :: C.1, p4)
    else q_bd (q_tk t n 59 v.2.2) fun p4 => .inr ([(q_kd t s (q_wrl t n s), v.1, v.2.1, some (len + 1))], p4)
def q_row (stp : Nat → Nat → QO5) (t : QR) (n : Nat) (un : Int32) : Nat → Nat → Nat → QO5
  | 0, _, p => .inr ([], q_bl t n p)
  | k + 1, len, p => if q_B t n (q_bl t n p) = un then .inr ([], q_bl t n p) else q_bd (stp len (q_bl t n p)) fun a => q_bd (q_row stp t n un k (len + a.1.length) a.2) fun c => .inr (a.1 ++ c.1, c.2)
def q_until (op : Nat) : Int32 := if op = 0 then -1 else 93
def q_RW (t : QR) (n : Nat) (ψ : QF) : Nat → Nat → Nat → Nat → QO5
  | 0, _, _, _ => .inl (1, 0)
  | d + 1, op, len, p => q_row (fun len s => q_stp (fun len p => q_RW t n ψ d (op + 1) len p) t n ψ op len s) t n (q_until op) 150 len p
/-- how steps lie -/
def QWn (L : List QE) : Nat → Nat → Nat → Nat → Prop
  | 0, lo, hi, _ => lo = hi
  | f + 1, lo, hi, op => lo = hi ∨ ∃ q, L[lo]? = some q ∧ ((q.1 < 6 ∧ q.2.2.2 = some (lo + 1) ∧ QWn L f (lo + 1) hi op) ∨ ∃ e, q.1 = 6 ∧ q.2.2.2 = some e ∧ op < 6 ∧ q.2.1 ≤ 30 ∧ QWn L f (lo + 1) e (op + 1) ∧ QWn L f e hi op)
theorem QWn.up {L : List QE} : ∀ {f g lo hi op : Nat}, QWn L f lo hi op → f ≤ g → QWn L g lo hi op := by
  intro f
  induction f with
  | zero =>
    intro g lo hi op h hg
    cases g with
    | zero => exact h
    | succ g => exact Or.inl h
  | succ f ih =>
    intro g lo hi op h hg
    obtain ⟨g, rfl⟩ : ∃ q, g = q + 1 := ⟨g - 1, by omega⟩
    rcases h with h | ⟨q, h1, ⟨h2, h3, h4⟩ | ⟨e, h2, h3, h4, h5, h6, h7⟩⟩
    · exact Or.inl h
    · exact Or.inr ⟨q, h1, Or.inl ⟨h2, h3, ih h4 (by omega)⟩⟩
    · exact Or.inr ⟨q, h1, Or.inr ⟨e, h2, h3, h4, h5, ih h6 (by omega), ih h7 (by omega)⟩⟩
def QW (L : List QE) (lo hi op : Nat) : Prop := ∃ f, QWn L f lo hi op
theorem QW.nil {L : List QE} (lo op : Nat) : QW L lo lo op := ⟨0, rfl⟩
theorem QW.one {L : List QE} (lo hi op : Nat) (q : QE) (h1 : L[lo]? = some q) (h2 : q.1 < 6) (h3 : q.2.2.2 = some (lo + 1)) (h4 : QW L (lo + 1) hi op) : QW L lo hi op := by
  obtain ⟨f, h4⟩ := h4
  exact ⟨f + 1, Or.inr ⟨q, h1, Or.inl ⟨h2, h3, h4⟩⟩⟩
theorem QW.rep {L : List QE} (lo hi op e : Nat) (q : QE) (h1 : L[lo]? = some q) (h2 : q.1 = 6) (h3 : q.2.2.2 = some e) (h4 : op < 6) (h5 : q.2.1 ≤ 30) (h6 : QW L (lo + 1) e (op + 1)) (h7 : QW L e hi op) : QW L lo hi op := by
  obtain ⟨f, h6⟩ := h6
  obtain ⟨g, h7⟩ := h7
  exact ⟨f + g + 1, Or.inr ⟨q, h1, Or.inr ⟨e, h2, h3, h4, h5, h6.up (by omega), h7.up (by omega)⟩⟩⟩
theorem QW.ind {L : List QE} {P : Nat → Nat → Nat → Prop} (nil : ∀ lo op, P lo lo op) (one : ∀ lo hi op (q : QE), L[lo]? = some q → q.1 < 6 → q.2.2.2 = some (lo + 1) → QW L (lo + 1) hi op → P (lo + 1) hi op → P lo hi op) (rep : ∀ lo hi op e (q : QE), L[lo]? = some q → q.1 = 6 → q.2.2.2 = some e → op < 6 → q.2.1 ≤ 30 → QW L (lo + 1) e (op + 1) → QW L e hi op → P (lo + 1) e (op + 1) → P e hi op → P lo hi op) {lo hi op : Nat} (h : QW L lo hi op) : P lo hi op := by
  obtain ⟨f, h⟩ := h
  revert lo hi op
  induction f with
  | zero =>
    intro lo hi op h
    have h : lo = hi := h
    rw [h]
    exact nil hi op
  | succ f ih =>
    intro lo hi op h
    rcases h with h | ⟨q, h1, ⟨h2, h3, h4⟩ | ⟨e, h2, h3, h4, h5, h6, h7⟩⟩
    · rw [h]
      exact nil hi op
    · exact one lo hi op q h1 h2 h3 ⟨f, h4⟩ (ih h4)
    · exact rep lo hi op e q h1 h2 h3 h4 h5 ⟨f, h6⟩ ⟨f, h7⟩ (ih h6) (ih h7)
theorem QW.app {L M : List QE} {lo hi op : Nat} (h : QW L lo hi op) : QW (L ++ M) lo hi op := by
  have ap : ∀ {k : Nat} {q : QE}, L[k]? = some q → (L ++ M)[k]? = some q := fun {k q} e => by
    rw [List.getElem?_append_left (List.getElem?_eq_some_iff.mp e).1]
    exact e
  exact QW.ind (P := fun lo hi op => QW (L ++ M) lo hi op) (fun lo op => QW.nil lo op) (fun lo hi op q a b c _ ih => QW.one lo hi op q (ap a) b c ih) (fun lo hi op e q a b c d f _ _ ih1 ih2 => QW.rep lo hi op e q (ap a) b c d f ih1 ih2) h
theorem QW.join {L : List QE} {lo mid hi op : Nat} (h : QW L lo mid op) (h2 : QW L mid hi op) : QW L lo hi op := QW.ind (P := fun lo mid op => ∀ hi, QW L mid hi op → QW L lo hi op) (fun lo op hi h => h) (fun lo mid op q a b c _ ih hi h2 => QW.one lo hi op q a b c (ih hi h2)) (fun lo mid op e q a b c d f h1 _ _ ih2 hi h2 => QW.rep lo hi op e q a b c d f h1 (ih2 hi h2)) h hi h2
/-- what is known of them -/
def q_sft (op len p n : Nat) (o : QO5) : Prop := (∀ z, o = .inl z → z.1 ≠ 0) ∧ ∀ z, o = .inr z → p + 2 * z.1.length ≤ z.2 ∧ z.2 ≤ n ∧ ∀ A : List QE, A.length = len → QW (A ++ z.1) len (len + z.1.length) op
section
variable {t : QR} {n p op len : Nat} {ψ : QF} {kr : Nat → Nat → QO5}
theorem q_nu1_f {lo hi : Int32} (hp : p ≤ n) : (∀ z, q_nu1 t n lo hi p = .inl z → z.1 ≠ 0) ∧ ∀ z, q_nu1 t n lo hi p = .inr z → p ≤ z.2 ∧ z.2 ≤ n ∧ q_nok t n p lo hi ∧ z.1 = q_num t n (q_bl t n p) := by
  obtain ⟨b1, b2, -⟩ := q_skp_b q_isB t hp
  change p ≤ q_bl t n p at b1
  obtain ⟨b3, b4, -⟩ := q_skp_b q_isD t b2
  change q_bl t n p ≤ q_dgt t n (q_bl t n p) at b3
  change q_dgt t n (q_bl t n p) ≤ n at b4
  unfold q_nu1
  by_cases c : q_nok t n p lo hi
  · rw [if_pos (q_nb_t c)]
    exact ⟨fun z e => (by cases e), fun z e => (by cases e; exact ⟨by show p ≤ q_dgt t n (q_bl t n p); omega, b4, c, rfl⟩)⟩
  · rw [if_neg (q_nb_f c)]
    exact ⟨fun z e => (by cases e; exact q_nfk_z _ _ _), fun z e => (by cases e)⟩
theorem q_nu_f {k : Nat} (hp : p ≤ n) : (∀ z, q_nu t n ψ k p = .inl z → z.1 ≠ 0) ∧ ∀ z, q_nu t n ψ k p = .inr z → p ≤ z.2.2 ∧ z.2.2 ≤ n ∧ (k = 6 → z.1 ≤ 30) := by
  have go : ∀ lo hi, (k = 6 → hi = Int32.ofNat 30) → lo = Int32.ofNat 0 ∨ k ≠ 6 → (∀ z : Int32 × Int32, (q_bd (q_nu1 t n lo hi p) fun a => (.inr (a.1, 0, a.2) : Sum (Int32 × Int32) (Nat × Nat × Nat))) = .inl z → z.1 ≠ 0) ∧ ∀ z : Nat × Nat × Nat, (q_bd (q_nu1 t n lo hi p) fun a => (.inr (a.1, 0, a.2) : Sum (Int32 × Int32) (Nat × Nat × Nat))) = .inr z → p ≤ z.2.2 ∧ z.2.2 ≤ n ∧ (k = 6 → z.1 ≤ 30) := fun lo hi hk hlo => by
    rcases e : q_nu1 t n lo hi p with z | a
    · rw [q_bd_l rfl]
      exact ⟨fun y q => (by cases q; exact (q_nu1_f hp).1 z e), fun y q => (by cases q)⟩
    · rw [q_bd_r rfl]
      obtain ⟨a1, a2, a3, a4⟩ := (q_nu1_f hp).2 a e
      refine ⟨fun y q => (by cases q), fun y q => ?_⟩
      cases q
      refine ⟨a1, a2, fun k6 => ?_⟩
      rw [hk k6] at a3
      have h0 := hlo.resolve_right (fun q => q k6)
      rw [h0] at a3
      show a.1 ≤ 30
      rw [a4]
      exact (q_nok_b a3 (by omega) (by omega)).2
  unfold q_nu
  by_cases c0 : k = 0 ∨ k = 3
  · rw [if_pos c0]
    exact go _ _ (fun q => by omega) (Or.inr (by omega))
  rw [if_neg c0]
  by_cases c1 : k = 1
  · rw [if_pos c1]
    exact go _ _ (fun q => by omega) (Or.inr (by omega))
  rw [if_neg c1]
  by_cases c4 : k = 4
  · rw [if_pos c4]
    rcases e : q_nu1 t n 0 (ψ 0 5 - 1) p with z | a
    · rw [q_bd_l rfl]
      exact ⟨fun y q => (by cases q; exact (q_nu1_f hp).1 z e), fun y q => (by cases q)⟩
    rw [q_bd_r rfl]
    obtain ⟨a1, a2, -⟩ := (q_nu1_f hp).2 a e
    rcases e2 : q_nu1 t n 0 (ψ 0 5 - 1) a.2 with z | c
    · rw [q_bd_l rfl]
      exact ⟨fun y q => (by cases q; exact (q_nu1_f a2).1 z e2), fun y q => (by cases q)⟩
    rw [q_bd_r rfl]
    obtain ⟨c1', c2', -⟩ := (q_nu1_f a2).2 c e2
    exact ⟨fun y q => (by cases q), fun y q => (by cases q; exact ⟨by show p ≤ c.2; omega, c2', fun k6 => by omega⟩)⟩
  rw [if_neg c4]
  by_cases c6 : k = 6
  · rw [if_pos c6]
    exact go _ _ (fun q => rfl) (Or.inl rfl)
  rw [if_neg c6]
  exact ⟨fun y q => (by cases q), fun y q => (by cases q; exact ⟨Nat.le_refl _, hp, fun k6 => absurd k6 c6⟩)⟩
theorem q_stp_f (hk : op < 6 → ∀ len p, p ≤ n → q_sft (op + 1) len p n (kr len p)) (hp : p ≤ n) : q_sft op len p n (q_stp kr t n ψ op len p) := by
  obtain ⟨w1, w2, -⟩ := q_skp_b q_isL t hp
  change p ≤ q_wrl t n p at w1
  change q_wrl t n p ≤ n at w2
  unfold q_stp
  rcases q_kd_b t p (q_wrl t n p) with c7 | ⟨c7, cw⟩
  · rw [if_pos c7]
    exact ⟨fun z e => (by cases e; exact (show ¬ (1 : Int32) = 0 by decide)), fun z e => (by cases e)⟩
  have hlt := q_isw_l hp (q_U_len _ c7) cw
  rw [if_neg (by omega)]
  by_cases c6 : q_kd t p (q_wrl t n p) = 6 ∧ 6 ≤ op
  · rw [if_pos c6]
    exact ⟨fun z e => (by cases e; exact (show ¬ (3 : Int32) = 0 by decide)), fun z e => (by cases e)⟩
  rw [if_neg c6]
  have F := q_nu_f (t := t) (ψ := ψ) (k := q_kd t p (q_wrl t n p)) w2
  rcases e1 : q_nu t n ψ (q_kd t p (q_wrl t n p)) (q_wrl t n p) with z | v
  · rw [q_bd_l rfl]
    exact ⟨fun y q => (by cases q; exact F.1 z e1), fun y q => (by cases q)⟩
  rw [q_bd_r rfl]
  obtain ⟨v1, v2, v3⟩ := F.2 v e1
  by_cases d6 : q_kd t p (q_wrl t n p) = 6
  · rw [if_pos d6]
    rcases e2 : q_tk t n 91 v.2.2 with z | p2
    · rw [q_bd_l rfl]
      exact ⟨fun y q => (by cases q; exact (q_tk_f (by decide) v2).1 z e2), fun y q => (by cases q)⟩
    rw [q_bd_r rfl]
    obtain ⟨a1, a2⟩ := (q_tk_f (by decide) v2).2 p2 e2
    rcases e3 : kr (len + 1) p2 with z | C
    · rw [q_bd_l rfl]
      exact ⟨fun y q => (by cases q; exact (hk (by omega) (len + 1) p2 a2).1 z e3), fun y q => (by cases q)⟩
    rw [q_bd_r rfl]
    obtain ⟨b1, b2, b3⟩ := (hk (by omega) (len + 1) p2 a2).2 C e3
    rcases e4 : q_tk t n 93 C.2 with z | p3
    · rw [q_bd_l rfl]
      exact ⟨fun y q => (by cases q; exact (q_tk_f (by decide) b2).1 z e4), fun y q => (by cases q)⟩
    rw [q_bd_r rfl]
    obtain ⟨c1, c2⟩ := (q_tk_f (by decide) b2).2 p3 e4
    rcases e5 : q_tk t n 59 p3 with z | p4
    · rw [q_bd_l rfl]
      exact ⟨fun y q => (by cases q; exact (q_tk_f (by decide) c2).1 z e5), fun y q => (by cases q)⟩
    rw [q_bd_r rfl]
    obtain ⟨d1, d2⟩ := (q_tk_f (by decide) c2).2 p4 e5
    refine ⟨fun y q => (by cases q), fun y q => ?_⟩
    cases q
    refine ⟨?_, d2, fun A hA => ?_⟩
    · show p + 2 * (C.1.length + 1) ≤ p4
      omega
    · show QW (A ++ ((6, v.1, 0, some (len + 1 + C.1.length)) :: C.1)) len (len + (C.1.length + 1)) op
      have g : (A ++ ((6, v.1, 0, some (len + 1 + C.1.length)) :: C.1))[len]? = some (6, v.1, 0, some (len + 1 + C.1.length)) := by
        rw [List.getElem?_append_right (by omega), hA, Nat.sub_self]
        rfl
      refine QW.rep len _ op (len + 1 + C.1.length) _ g rfl rfl (by omega) (v3 d6) ?_ ?_
      · have := b3 (A ++ [(6, v.1, 0, some (len + 1 + C.1.length))]) (by rw [List.length_append, hA]; rfl)
        rwa [List.append_assoc] at this
      · rw [show len + (C.1.length + 1) = len + 1 + C.1.length by omega]
        exact QW.nil _ _
  · rw [if_neg d6]
    rcases e2 : q_tk t n 59 v.2.2 with z | p4
    · rw [q_bd_l rfl]
      exact ⟨fun y q => (by cases q; exact (q_tk_f (by decide) v2).1 z e2), fun y q => (by cases q)⟩
    rw [q_bd_r rfl]
    obtain ⟨a1, a2⟩ := (q_tk_f (by decide) v2).2 p4 e2
    refine ⟨fun y q => (by cases q), fun y q => ?_⟩
    cases q
    refine ⟨?_, a2, fun A hA => ?_⟩
    · show p + 2 * 1 ≤ p4
      omega
    · refine QW.one len _ op (q := (q_kd t p (q_wrl t n p), v.1, v.2.1, some (len + 1))) ?_ (by show q_kd t p (q_wrl t n p) < 6; omega) rfl (QW.nil _ _)
      rw [List.getElem?_append_right (by omega), hA, Nat.sub_self]
      rfl
theorem q_row_f {stp : Nat → Nat → QO5} {un : Int32} (hs : ∀ len p, p ≤ n → q_sft op len p n (stp len p)) : ∀ k len p, p ≤ n → q_sft op len p n (q_row stp t n un k len p) := by
  intro k
  induction k with
  | zero =>
    intro len p hp
    obtain ⟨b1, b2, -⟩ := q_skp_b q_isB t hp
    refine ⟨fun z e => (by cases e), fun z e => ?_⟩
    cases e
    exact ⟨b1, b2, fun A _ => QW.nil _ _⟩
  | succ k ih =>
    intro len p hp
    obtain ⟨b1, b2, -⟩ := q_skp_b q_isB t hp
    change p ≤ q_bl t n p at b1
    change q_bl t n p ≤ n at b2
    unfold q_row
    by_cases c : q_B t n (q_bl t n p) = un
    · rw [if_pos c]
      refine ⟨fun z e => (by cases e), fun z e => ?_⟩
      cases e
      exact ⟨b1, b2, fun A _ => QW.nil _ _⟩
    rw [if_neg c]
    rcases e1 : stp len (q_bl t n p) with z | a
    · rw [q_bd_l rfl]
      exact ⟨fun y q => (by cases q; exact (hs len _ b2).1 z e1), fun y q => (by cases q)⟩
    rw [q_bd_r rfl]
    obtain ⟨a1, a2, a3⟩ := (hs len _ b2).2 a e1
    rcases e2 : q_row stp t n un k (len + a.1.length) a.2 with z | y
    · rw [q_bd_l rfl]
      exact ⟨fun w q => (by cases q; exact (ih _ _ a2).1 z e2), fun w q => (by cases q)⟩
    rw [q_bd_r rfl]
    obtain ⟨y1, y2, y3⟩ := (ih (len + a.1.length) a.2 a2).2 y e2
    refine ⟨fun w q => (by cases q), fun w q => ?_⟩
    cases q
    refine ⟨?_, y2, fun A hA => ?_⟩
    · show p + 2 * (a.1 ++ y.1).length ≤ y.2
      rw [List.length_append]
      omega
    · show QW (A ++ (a.1 ++ y.1)) len (len + (a.1 ++ y.1).length) op
      have h1 := (a3 A hA).app (M := y.1)
      have h2 := y3 (A ++ a.1) (by rw [List.length_append, hA])
      rw [List.append_assoc] at h1 h2
      rw [List.length_append, ← Nat.add_assoc]
      exact h1.join h2
theorem q_RW_f : ∀ d op len p, op ≤ 6 → 7 ≤ d + op → p ≤ n → q_sft op len p n (q_RW t n ψ d op len p) := by
  intro d
  induction d with
  | zero => intro op len p h1 h2; omega
  | succ d ih =>
    intro op len p h1 h2 hp
    unfold q_RW
    exact q_row_f (fun len p hp => q_stp_f (fun h len p hp => ih (op + 1) len p (by omega) (by omega) hp) hp) 150 len p hp
end
