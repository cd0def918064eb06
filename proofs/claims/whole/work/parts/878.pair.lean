/-! one call of the law, on both objects -/
/-- where the law's loop stands -/
def GI (b m v3 : Nat) (S : AxS) : Prop := ∃ Z f V, S = axM Z f ∧ GC Z b f V ∧ GM Z m f V ∧ GA V ∧ b + 315 < m ∧ m + 530 < v3 ∧ axL Z v3 = some (2, 1)
/-- the law's own numbers for what is thrown -/
def q_cd (kd : Nat) (E : String) (c : Int32) : Prop := (kd = 0 ∧ E = q_iae ∧ c = 1) ∨ (kd = 1 ∧ E = q_nse ∧ c = 1) ∨ (kd = 1 ∧ E = q_iae ∧ c = 2) ∨ (kd = 2 ∧ E = q_nse ∧ c = 1)
theorem q_cd_0 {kd : Nat} {E : String} {c : Int32} (h : q_cd kd E c) : c ≠ 0 := by
  rcases h with ⟨-, -, rfl⟩ | ⟨-, -, rfl⟩ | ⟨-, -, rfl⟩ | ⟨-, -, rfl⟩ <;> decide
/-- calls that may throw -/
def GT {α : Type} (kd b m : Nat) (oc : AxS → Option (AxT α)) (om : AxS → Option (α × AxS)) : Prop := ∀ V, GA V → GO V → (∃ v V', GA V' ∧ (∀ Z f, GC Z b f V → CRes Z b f V' (oc (axM Z f)) (.inl v)) ∧ ∀ Z f, GM Z m f V → MRes Z m f V' 0 (om (axM Z f)) v) ∨ ∃ E c V', q_cd kd E c ∧ GA V' ∧ (∀ Z f, GC Z b f V → CRes Z b f V' (oc (axM Z f)) (.inr E)) ∧ ∀ Z f, GM Z m f V → ∃ w, MRes Z m f V' c (om (axM Z f)) w
/-- calls that don't -/
def GD {α : Type} (b m : Nat) (oc om : AxS → Option (α × AxS)) : Prop := ∀ V, GA V → GO V → ∃ v V', GA V' ∧ (∀ Z f, GC Z b f V → CRes Z b f V' (oc (axM Z f)) v) ∧ ∀ Z f, GM Z m f V → MRes Z m f V' 0 (om (axM Z f)) v
section
variable {Z Z' : AxS} {b m v3 N : Nat} {f g : Nat → Nat → Int32} {V V' : GV}
theorem GC.bb (h : GC Z b f V) : axL Z b = some (0, 9) := by
  obtain ⟨ψ, l, r, β, nl, nb, t, pl, rs, c0, c1, nw, wk, ni, im⟩ := V
  obtain ⟨⟨fa, sf, la, sl, bo, sb, hH, -⟩, -⟩ := h
  exact hH.1.1.1
theorem GM.mm (h : GM Z m f V) : axL Z m = some (0, 10) := by
  obtain ⟨ψ, l, r, β, nl, nb, t, pl, rs, c0, c1, nw, wk, ni, im⟩ := V
  exact h.1.1.1
theorem GM.oo (h : GM Z m f V) : GO V := by
  obtain ⟨ψ, l, r, β, nl, nb, t, pl, rs, c0, c1, nw, wk, ni, im⟩ := V
  exact ⟨h.1.2.2.1, h.1.2.2.2.2.2.2⟩
theorem GM.cc (h : GM Z m f V) (hV : GA V) (hd : b + 315 < m) (hF : CFa b f g) (hZ : CZa b Z Z') : GM Z' m g V := by
  obtain ⟨ψ, l, r, β, nl, nb, t, pl, rs, c0, c1, nw, wk, ni, im⟩ := V
  have A : MA Z m g ψ l r β nl nb t pl rs c0 c1 nw wk ni im := MA.fr h hV fun x p q => hF x (by omega)
  exact A.z hZ.2.1 fun x k hx => hZ.2.2.1 x k (by omega)
theorem GM.jj (h : GM Z m f V) (k : Nat) (v : Int64) : GM (axSJ Z v3 k v) m f V := by
  obtain ⟨ψ, l, r, β, nl, nb, t, pl, rs, c0, c1, nw, wk, ni, im⟩ := V
  exact MA.z h rfl fun _ _ _ => rfl
theorem GC.jj (h : GC Z b f V) (k : Nat) (v : Int64) : GC (axSJ Z v3 k v) b f V := by
  obtain ⟨ψ, l, r, β, nl, nb, t, pl, rs, c0, c1, nw, wk, ni, im⟩ := V
  exact CA.z h rfl rfl rfl
theorem GC.cm (h : GC Z b f V) (hV : GA V) (hd : b + 315 < m) (hF : MFa m f g) (hZ : ZJ m Z Z') : GC Z' b g V := by
  obtain ⟨ψ, l, r, β, nl, nb, t, pl, rs, c0, c1, nw, wk, ni, im⟩ := V
  have A : CA Z b g ψ l r β nl nb t pl rs c0 c1 nw wk ni im := CA.fr h hV fun x p q => hF x (by omega)
  exact A.z (by rw [hZ.1]) hZ.2.1 hZ.2.2.1
theorem axL_c (hZ : CZa b Z Z') (a : Nat) : axL Z' a = axL Z a := by
  unfold axL
  rw [hZ.2.1]
theorem axL_j (hZ : ZJ m Z Z') (a : Nat) : axL Z' a = axL Z a := by
  unfold axL
  rw [hZ.2.1]
theorem lg_cmp_e (x : Int64) : lg_cmp x x = 0 := by
  unfold lg_cmp
  rw [if_neg (fun h => absurd h (Int64.lt_irrefl)), if_pos rfl]
/-- a call that may throw, as the law makes it -/
theorem seg_T {α : Type} {kd : Nat} {oc : AxS → Option (AxT α)} {om : AxS → Option (α × AxS)} (h : GT kd b m oc om) {S : AxS} (hG : GI b m v3 S) (inj : α → Int64) (H : String → AxS → Option (Int32 × AxS)) (hH : ∀ E c T, q_cd kd E c → H E T = some (c, T)) (K : AxS → Option (Int32 × AxS)) : ∃ S', GI b m v3 S' ∧ (axB (ax_is S b 9 <| axBC (oc S) (fun x3 T2 => ax_stl T2 v3 0 (inj x3) fun T4 => some (0, T4)) H) fun x3 T2 => ax_is T2 m 10 <| axB (om T2) fun x7 T6 => ax_is T6 m 10 <| axB (F_X10_thrown N m T6) fun x10 T9 => if x10 = x3 then (if x3 = 0 then (ax_ldl T9 v3 0 fun x11 => if (lg_cmp x11 (inj x7)) = 0 then K T9 else some (0, T9)) else K T9) else some (0, T9)) = K S' := by
  obtain ⟨Z, f, V, rfl, hC, hM, hV, d1, d2, h3⟩ := hG
  rcases h V hV hM.oo with ⟨v, V', hV', cC, cM⟩ | ⟨E, c, V', hk, hV', cC, cM⟩
  · obtain ⟨Z1, f1, e1, C1, F1, z1⟩ := cC Z f hC
    obtain ⟨Z2, f2, e2, M2, t2, F2, z2⟩ := cM (axSJ Z1 v3 0 (inj v)) f1 ((hM.cc hV d1 F1 z1).jj 0 (inj v))
    have l1 : axL Z1 v3 = some (2, 1) := by rw [axL_c z1, h3]
    have l2 : axL Z2 v3 = some (2, 1) := by
      rw [axL_j z2]
      exact l1
    have m1 : axL (axSJ Z1 v3 0 (inj v)) m = some (0, 10) := ((hM.cc hV d1 F1 z1).jj (v3 := v3) 0 (inj v)).mm
    have j2 : axJ Z2 v3 0 = inj v := by
      rw [z2.2.2.2 v3 (by omega) 0]
      exact ax2_k _ _ _ _
    refine ⟨axM Z2 f2, ⟨Z2, f2, V', rfl, (C1.jj 0 (inj v)).cm hV' d1 F2 z2, M2, hV', d1, d2, l2⟩, ?_⟩
    unfold F_X10_thrown
    rw [m_is hC.bb, e1, axBC_l, m_stl (k := 0) l1 (by decide) (by decide) (by omega), axB_s, m_is m1, e2, axB_s, m_is M2.mm, m_gi M2.mm, t2, axB_s, if_pos rfl, if_pos rfl, m_ldl (k := 0) l2 (by decide) (by decide) (by omega), j2, lg_cmp_e, if_pos rfl]
  · obtain ⟨Z1, f1, e1, C1, F1, z1⟩ := cC Z f hC
    obtain ⟨w, Z2, f2, e2, M2, t2, F2, z2⟩ := cM Z1 f1 (hM.cc hV d1 F1 z1)
    have m1 : axL Z1 m = some (0, 10) := (hM.cc hV d1 F1 z1).mm
    refine ⟨axM Z2 f2, ⟨Z2, f2, V', rfl, C1.cm hV' d1 F2 z2, M2, hV', d1, d2, by rw [axL_j z2, axL_c z1, h3]⟩, ?_⟩
    unfold F_X10_thrown
    rw [m_is hC.bb, e1, axBC_r, hH E c _ hk, axB_s, m_is m1, e2, axB_s, m_is M2.mm, m_gi M2.mm, t2, axB_s, if_pos rfl, if_neg (q_cd_0 hk)]
theorem seg_D {α : Type} {oc om : AxS → Option (Int32 × AxS)} (h : GD b m oc om) {S : AxS} (hG : GI b m v3 S) (K : AxS → Option (Int32 × AxS)) : ∃ S', GI b m v3 S' ∧ (ax_is S b 9 <| axB (oc S) fun x3 T2 => ax_is T2 m 10 <| axB (om T2) fun x6 T5 => if x3 = x6 then K T5 else some (0, T5)) = K S' := by
  obtain ⟨Z, f, V, rfl, hC, hM, hV, d1, d2, h3⟩ := hG
  obtain ⟨v, V', hV', cC, cM⟩ := h V hV hM.oo
  obtain ⟨Z1, f1, e1, C1, F1, z1⟩ := cC Z f hC
  obtain ⟨Z2, f2, e2, M2, t2, F2, z2⟩ := cM Z1 f1 (hM.cc hV d1 F1 z1)
  have m1 : axL Z1 m = some (0, 10) := (hM.cc hV d1 F1 z1).mm
  refine ⟨axM Z2 f2, ⟨Z2, f2, V', rfl, C1.cm hV' d1 F2 z2, M2, hV', d1, d2, by rw [axL_j z2, axL_c z1, h3]⟩, ?_⟩
  rw [m_is hC.bb, e1, axB_s, m_is m1, e2, axB_s, if_pos rfl]
/-- the three ways in which the law catches -/
theorem q_h0 (E : String) (c : Int32) (T : AxS) (h : q_cd 0 E c) : (fun E9 T2 => if E9 = "java/lang/IllegalArgumentException" then (some (1, T2)) else (none) : String → AxS → Option (Int32 × AxS)) E T = some (c, T) := by
  rcases h with ⟨-, rfl, rfl⟩ | ⟨h, -⟩ | ⟨h, -⟩ | ⟨h, -⟩
  · exact if_pos rfl
  all_goals cases h
theorem q_h1 (E : String) (c : Int32) (T : AxS) (h : q_cd 1 E c) : (fun E9 T2 => if E9 = "java/util/NoSuchElementException" then (some (1, T2)) else (if E9 = "java/lang/IllegalArgumentException" then (some (2, T2)) else (none)) : String → AxS → Option (Int32 × AxS)) E T = some (c, T) := by
  rcases h with ⟨h, -⟩ | ⟨-, rfl, rfl⟩ | ⟨-, rfl, rfl⟩ | ⟨h, -⟩
  · cases h
  · exact if_pos rfl
  · exact (if_neg (show ¬ "java/lang/IllegalArgumentException" = "java/util/NoSuchElementException" by decide)).trans (if_pos rfl)
  · cases h
theorem q_h2 (E : String) (c : Int32) (T : AxS) (h : q_cd 2 E c) : (fun E9 T2 => if E9 = "java/util/NoSuchElementException" then (some (1, T2)) else (none) : String → AxS → Option (Int32 × AxS)) E T = some (c, T) := by
  rcases h with ⟨h, -⟩ | ⟨h, -⟩ | ⟨h, -⟩ | ⟨-, rfl, rfl⟩
  · cases h
  · cases h
  · cases h
  · exact if_pos rfl
end
