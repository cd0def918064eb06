/-! both objects together: what one call of the law makes of them -/
abbrev GV : Type := QF × QL × QR × QR × Nat × Nat × QR × Int32 × Int32 × Int32 × Int32 × Nat × (Nat → QR) × Nat × QI
def GC (Z : AxS) (b : Nat) (f : Nat → Nat → Int32) : GV → Prop
  | (ψ, l, r, β, nl, nb, t, pl, rs, c0, c1, nw, wk, ni, im) => CA Z b f ψ l r β nl nb t pl rs c0 c1 nw wk ni im
def GM (Z : AxS) (m : Nat) (f : Nat → Nat → Int32) : GV → Prop
  | (ψ, l, r, β, nl, nb, t, pl, rs, c0, c1, nw, wk, ni, im) => MA Z m f ψ l r β nl nb t pl rs c0 c1 nw wk ni im
def GA : GV → Prop
  | (ψ, _, _, _, _, nb, t, _, _, _, _, nw, wk, ni, im) => VA ψ nb t nw wk ni im
def GO : GV → Prop
  | (ψ, _, r, _, _, _, _, _, _, _, _, _, _, _, _) => q_fw ψ ∧ q_ok ψ 999 r ∧ r 12 = 0
section
variable {Z Z' : AxS} {b m N : Nat} {f g : Nat → Nat → Int32} {ψ : QF} {l : QL} {r β : QR} {nl nb : Nat} {t : QR} {pl rs c0 c1 : Int32} {nw : Nat} {wk : Nat → QR} {ni : Nat} {im : QI}
theorem LMo.z (h : LMo Z m) (h2 : Z'.2.1 = Z.2.1) (h3 : ∀ x k, m ≤ x → axP Z' x k = axP Z x k) : LMo Z' m := by
  have hL : ∀ a, axL Z' a = axL Z a := fun a => by
    unfold axL
    rw [h2]
  obtain ⟨a1, a2, a3, a4⟩ := h
  exact ⟨by rw [hL]; exact a1, fun k t e => by rw [h3 m k (by omega)]; exact a2 k t e, fun t sh e => by rw [hL]; exact a3 t sh e, fun t n K e j hj => by rw [h3 _ _ (by omega), hL]; exact a4 t n K e j hj⟩
theorem MA.z (h : MA Z m f ψ l r β nl nb t pl rs c0 c1 nw wk ni im) (h2 : Z'.2.1 = Z.2.1) (h3 : ∀ x k, m ≤ x → axP Z' x k = axP Z x k) : MA Z' m f ψ l r β nl nb t pl rs c0 c1 nw wk ni im := ⟨⟨h.1.1.z h2 h3, h.1.2⟩, h.2⟩
theorem MA.zj (h : MA Z m f ψ l r β nl nb t pl rs c0 c1 nw wk ni im) (z : ZJ m Z Z') : MA Z' m f ψ l r β nl nb t pl rs c0 c1 nw wk ni im := h.z z.2.1 fun x k _ => by
  unfold axP
  rw [z.2.2.1]
theorem MA.fr (h : MA Z m f ψ l r β nl nb t pl rs c0 c1 nw wk ni im) (hV : VA ψ nb t nw wk ni im) (e : ∀ x, m ≤ x → x ≤ m + 530 → g x = f x) : MA Z m g ψ l r β nl nb t pl rs c0 c1 nw wk ni im := by
  have em := e m (by omega) (by omega)
  refine h.x hV.2.2.1 hV.2.2.2.2.1 (by rw [em]; exact h.2.2.1) (by rw [em]; exact h.2.2.2.2.1) (fun k _ => by rw [em]) fun x hx => ?_
  unfold scX at hx
  exact e x (by omega) (by omega)
theorem CA.z (h : CA Z b f ψ l r β nl nb t pl rs c0 c1 nw wk ni im) (h1 : Z'.1.2 = Z.1.2) (h2 : Z'.2.1 = Z.2.1) (h3 : Z'.2.2.2.1 = Z.2.2.2.1) : CA Z' b f ψ l r β nl nb t pl rs c0 c1 nw wk ni im := by
  obtain ⟨⟨p, q⟩, sh, i, P, J⟩ := Z
  obtain ⟨⟨p', q'⟩, sh', i', P', J'⟩ := Z'
  have h1 : q' = q := h1
  have h2 : sh' = sh := h2
  have h3 : P' = P := h3
  subst h1
  subst h2
  subst h3
  exact h
/-- facts, law, lines and state stay; the counts of refusals and FITS may not -/
theorem CA.cg {c0' c1' : Int32} (h : CA Z b f ψ l r β nl nb t pl rs c0 c1 nw wk ni im) (hV : VA ψ nb t nw wk ni im) (e : ∀ x, x ≠ b → ¬ scF b x → g x = f x) (hK : fitC g b ψ l β) (e12 : g b 12 = f b 12) (e13 : g b 13 = f b 13) (e14 : g b 14 = c0') (e15 : g b 15 = c1') : CA Z b g ψ l r β nl nb t pl rs c0' c1' nw wk ni im := by
  obtain ⟨⟨fa, sf, la, sl, bo, sb, hH, hB⟩, -, hT, k1, k2, k3, k4, k5, k6, k7, k8, k9, k10⟩ := h
  obtain ⟨-, -, hnw, -, hni, him⟩ := hV
  obtain ⟨hC, hF, hw, hl, hlw, hR, hok⟩ := hH
  have q1 := hC.2.2.1
  have q2 := hC.2.2.2.1
  have q3 := hC.2.2.2.2.1
  have hla : la = b + 15 ∨ la = b + 19 := by clear q1 q3; omega
  have hfa : b + 2 < fa ∧ fa + 5 < b + 15 := by clear q2 q3; omega
  have hbo : b + 22 < bo ∧ bo + 1 < b + 27 := by clear q1 q2; omega
  clear q1 q2 q3
  unfold scF scC at e
  refine CA.mk ⟨fa, sf, la, sl, bo, sb, ⟨hC, ?_, hw, hl.e (e _ (by omega) (by omega)) (e _ (by omega) (by omega)), hlw, ?_, hok⟩, ?_⟩ hK hT (by rw [e _ (by omega) (by omega), k1]) (by rw [e _ (by omega) (by omega), k3]) ⟨fun j hj => by rw [e _ (by omega) (by omega), k2 j hj], by rw [e13, k4], e14, e15, by rw [e _ (by omega) (by omega), k7], fun w hw => ?_, by rw [e12, k9], fun i hi => ?_⟩
  · rw [← hF]
    exact rdF_e fun x p q => e x (by omega) (by omega)
  · rw [← hR]
    exact rdSt_e (e _ (by omega) (by omega)) (e _ (by omega) (by omega)) (e _ (by omega) (by omega))
  · unfold clB at hB ⊢
    rw [e bo (by omega) (by omega), e (bo + 1) (by omega) (by omega)]
    exact hB
  · rw [← k8 w hw]
    exact rdSt_e (e _ (by omega) (by omega)) (e _ (by omega) (by omega)) (e _ (by omega) (by omega))
  · obtain ⟨v1, v2, v3⟩ := k10 i hi
    refine ⟨by rw [e _ (by omega) (by omega), v1], ?_, fun w hw => ?_⟩
    · rw [← v2]
      exact rdSt_e (e _ (by omega) (by omega)) (e _ (by omega) (by omega)) (e _ (by omega) (by omega))
    · have := him i hi
      rw [← v3 w hw]
      exact rdSt_e (e _ (by omega) (by omega)) (e _ (by omega) (by omega)) (e _ (by omega) (by omega))
theorem CA.fr (h : CA Z b f ψ l r β nl nb t pl rs c0 c1 nw wk ni im) (hV : VA ψ nb t nw wk ni im) (e : ∀ x, b ≤ x → x ≤ b + 315 → g x = f x) : CA Z b g ψ l r β nl nb t pl rs c0 c1 nw wk ni im := by
  have eb := e b (by omega) (by omega)
  obtain ⟨⟨fa, sf, la, sl, bo, sb, hH, hB⟩, hK, hT, k1, k2, k3, k4, k5, k6, k7, k8, k9, k10⟩ := h
  obtain ⟨-, -, hnw, -, hni, him⟩ := hV
  obtain ⟨hC, hF, hw, hl, hlw, hR, hok⟩ := hH
  have q1 := hC.2.2.1
  have q2 := hC.2.2.2.1
  have q3 := hC.2.2.2.2.1
  have hla : la = b + 15 ∨ la = b + 19 := by clear q1 q3; omega
  have hfa : b + 2 < fa ∧ fa + 5 < b + 15 := by clear q2 q3; omega
  have hbo : b + 22 < bo ∧ bo + 1 < b + 27 := by clear q1 q2; omega
  clear q1 q2 q3
  refine CA.mk ⟨fa, sf, la, sl, bo, sb, ⟨hC, ?_, hw, hl.e (e _ (by omega) (by omega)) (e _ (by omega) (by omega)), hlw, ?_, hok⟩, ?_⟩ (hK.e fun x p q => e x (by omega) (by omega)) hT (by rw [e _ (by omega) (by omega), k1]) (by rw [e _ (by omega) (by omega), k3]) ⟨fun j hj => by rw [e _ (by omega) (by omega), k2 j hj], by rw [eb, k4], by rw [eb, k5], by rw [eb, k6], by rw [e _ (by omega) (by omega), k7], fun w hw => ?_, by rw [eb, k9], fun i hi => ?_⟩
  · rw [← hF]
    exact rdF_e fun x p q => e x (by omega) (by omega)
  · rw [← hR]
    exact rdSt_e (e _ (by omega) (by omega)) (e _ (by omega) (by omega)) (e _ (by omega) (by omega))
  · unfold clB at hB ⊢
    rw [e bo (by omega) (by omega), e (bo + 1) (by omega) (by omega)]
    exact hB
  · rw [← k8 w hw]
    exact rdSt_e (e _ (by omega) (by omega)) (e _ (by omega) (by omega)) (e _ (by omega) (by omega))
  · obtain ⟨v1, v2, v3⟩ := k10 i hi
    refine ⟨by rw [e _ (by omega) (by omega), v1], ?_, fun w hw => ?_⟩
    · rw [← v2]
      exact rdSt_e (e _ (by omega) (by omega)) (e _ (by omega) (by omega)) (e _ (by omega) (by omega))
    · have := him i hi
      rw [← v3 w hw]
      exact rdSt_e (e _ (by omega) (by omega)) (e _ (by omega) (by omega)) (e _ (by omega) (by omega))
/-- what a call gives, on either side -/
def CRes {α : Type} (Z : AxS) (b : Nat) (f : Nat → Nat → Int32) (V : GV) (o : Option (α × AxS)) (v : α) : Prop := ∃ Z' f', o = some (v, axM Z' f') ∧ GC Z' b f' V ∧ CFa b f f' ∧ CZa b Z Z'
def MRes {α : Type} (Z : AxS) (m : Nat) (f : Nat → Nat → Int32) (V : GV) (c : Int32) (o : Option (α × AxS)) (v : α) : Prop := ∃ Z' f', o = some (v, axM Z' f') ∧ GM Z' m f' V ∧ f' m 0 = c ∧ MFa m f f' ∧ ZJ m Z Z'
theorem CA.askF {α : Type} {o : Option (AxT α)} {v : α} (h : CA Z b f ψ l r β nl nb t pl rs c0 c1 nw wk ni im) (hV : VA ψ nb t nw wk ni im) (q : CFz Z b f ψ l β o v) : CRes Z b f (ψ, l, r, β, nl, nb, t, pl, rs, c0, c1, nw, wk, ni, im) o (.inl v) := by
  obtain ⟨f', e, hK, hf⟩ := q
  have eb : f' b = f b := hf b (by unfold scF scC; omega)
  refine ⟨Z, f', e, h.cg hV (fun x _ c => hf x c) hK (by rw [eb]) (by rw [eb]) (by rw [eb]; exact h.2.2.2.2.2.2.2.1) (by rw [eb]; exact h.2.2.2.2.2.2.2.2.1), fun x hx => hf x (by unfold scF scC; omega), CZa.rf _ _⟩
theorem CA.ask {α : Type} {o : Option (AxT α)} {v : α} (h : CA Z b f ψ l r β nl nb t pl rs c0 c1 nw wk ni im) (hV : VA ψ nb t nw wk ni im) (q : CQz Z b f o v) : CRes Z b f (ψ, l, r, β, nl, nb, t, pl, rs, c0, c1, nw, wk, ni, im) o (.inl v) := by
  obtain ⟨f', e, hf⟩ := q
  exact h.askF hV ⟨f', e, h.2.1.e fun x p q => hf x (by unfold scC; omega), fun x c => hf x fun z => c (Or.inl z)⟩
theorem CA.tz15 {α : Type} {o : Option (AxT α)} {E : String} (h : CA Z b f ψ l r β nl nb t pl rs c0 c1 nw wk ni im) (hV : VA ψ nb t nw wk ni im) (q : CTz Z b f o E 15) : CRes Z b f (ψ, l, r, β, nl, nb, t, pl, rs, c0, c1 + 1, nw, wk, ni, im) o (.inr E) := by
  obtain ⟨f', e, hf⟩ := q
  have eb : f' b = ax2 f b 15 (f b 15 + 1) b := hf b (by unfold scC; omega)
  have A : CA Z b f' ψ l r β nl nb t pl rs c0 (c1 + 1) nw wk ni im := h.cg hV (fun x p c => by rw [hf x (fun z => c (Or.inl z)), ax2_n _ _ _ _ p]) (h.2.1.e fun x p q => by rw [hf x (by unfold scC; omega), ax2_n _ _ _ _ (by omega)]) (by rw [eb, ax2_j _ _ _ _ _ (by omega)]) (by rw [eb, ax2_j _ _ _ _ _ (by omega)]) (by rw [eb, ax2_j _ _ _ _ _ (by omega)]; exact h.2.2.2.2.2.2.2.1) (by rw [eb, ax2_k, h.2.2.2.2.2.2.2.2.1])
  exact ⟨axS0 Z, f', e, A.z rfl rfl rfl, fun x hx => by rw [hf x (by unfold scC; omega), ax2_n _ _ _ _ (by omega)], ⟨rfl, rfl, fun _ _ _ => rfl, rfl⟩⟩
theorem CA.tz14 {α : Type} {o : Option (AxT α)} {E : String} (h : CA Z b f ψ l r β nl nb t pl rs c0 c1 nw wk ni im) (hV : VA ψ nb t nw wk ni im) (q : CTz Z b f o E 14) : CRes Z b f (ψ, l, r, β, nl, nb, t, pl, rs, c0 + 1, c1, nw, wk, ni, im) o (.inr E) := by
  obtain ⟨f', e, hf⟩ := q
  have eb : f' b = ax2 f b 14 (f b 14 + 1) b := hf b (by unfold scC; omega)
  have A : CA Z b f' ψ l r β nl nb t pl rs (c0 + 1) c1 nw wk ni im := h.cg hV (fun x p c => by rw [hf x (fun z => c (Or.inl z)), ax2_n _ _ _ _ p]) (h.2.1.e fun x p q => by rw [hf x (by unfold scC; omega), ax2_n _ _ _ _ (by omega)]) (by rw [eb, ax2_j _ _ _ _ _ (by omega)]) (by rw [eb, ax2_j _ _ _ _ _ (by omega)]) (by rw [eb, ax2_k, h.2.2.2.2.2.2.2.1]) (by rw [eb, ax2_j _ _ _ _ _ (by omega)]; exact h.2.2.2.2.2.2.2.2.1)
  exact ⟨axS0 Z, f', e, A.z rfl rfl rfl, fun x hx => by rw [hf x (by unfold scC; omega), ax2_n _ _ _ _ (by omega)], ⟨rfl, rfl, fun _ _ _ => rfl, rfl⟩⟩
/-- the model: fields 17, 31 to 34 and what lies far stay -/
theorem MA.ask {α : Type} {o : Option (α × AxS)} {v : α} (h : MA Z m f ψ l r β nl nb t pl rs c0 c1 nw wk ni im) (hV : VA ψ nb t nw wk ni im) (q : MQz Z m f o v) : MRes Z m f (ψ, l, r, β, nl, nb, t, pl, rs, c0, c1, nw, wk, ni, im) 0 o v := by
  obtain ⟨Z', f', e, z, e0, ek, ex⟩ := q
  have A : MA Z m f' ψ l r β nl nb t pl rs c0 c1 nw wk ni im := h.x hV.2.2.1 hV.2.2.2.2.1 (by rw [ek 1 (by unfold scK; omega)]; exact h.2.2.1) (by rw [ek 3 (by unfold scK; omega)]; exact h.2.2.2.2.1) (fun k hk => ek k (by unfold scK; omega)) fun x hx => ex x (by unfold scX at hx; omega) (by unfold scX at hx; unfold scM; omega)
  exact ⟨Z', f', e, A.zj z, e0, fun x hx => ex x (by omega) (by unfold scM; omega), z⟩
theorem MA.tzc {α : Type} {o : Option (α × AxS)} {c : Int32} {j : Nat} {c0' c1' : Int32} (h : MA Z m f ψ l r β nl nb t pl rs c0 c1 nw wk ni im) (hV : VA ψ nb t nw wk ni im) (q : MTz Z m f o c j) (j0 : j ≤ 1) (e0 : c0' = if j = 0 then c0 + 1 else c0) (e1 : c1' = if j = 1 then c1 + 1 else c1) : ∃ w, MRes Z m f (ψ, l, r, β, nl, nb, t, pl, rs, c0', c1', nw, wk, ni, im) c o w := by
  obtain ⟨w, Z', f', e, z, e9, ek, ex⟩ := q
  obtain ⟨hH, hB, k1, k2, k3, k4, k5, k6, k7, k8, k9, k10⟩ := h
  have hnw := hV.2.2.1
  have hni := hV.2.2.2.2.1
  have o : ∀ x, x ≠ m → ¬ scM m x → x ≠ m + 2 → f' x = f x := fun x p q s => by rw [ex x p q, ax2_n _ _ _ _ s]
  have o2 : f' (m + 2) = ax2 f (m + 2) j (f (m + 2) j + 1) (m + 2) := ex (m + 2) (by omega) (by unfold scM; omega)
  unfold scM at o
  have A : MA Z m f' ψ l r β nl nb t pl rs c0' c1' nw wk ni im := by
    refine ⟨hH.x (ek 17 (by unfold scK; omega)) (fun x hx => o x (by omega) (by omega) (by omega)), hB.x (ek 31 (by unfold scK; omega)) (fun x p q => o x (by omega) (by omega) (by omega)), by rw [ek 1 (by unfold scK; omega), k1], fun j hj => by rw [o _ (by omega) (by omega) (by omega), k2 j hj], by rw [ek 3 (by unfold scK; omega), k3], by rw [ek 33 (by unfold scK; omega), k4], ?_, ?_, by rw [ek 32 (by unfold scK; omega), k7], fun w hw => ?_, by rw [ek 34 (by unfold scK; omega), k9], fun i hi => ?_⟩
    · rw [o2, ax2_a, e0]
      by_cases d : j = 0
      · subst d
        rw [if_pos rfl, if_pos rfl, k5]
      · rw [if_neg (by omega), if_neg d, k5]
    · rw [o2, ax2_a, e1]
      by_cases d : j = 1
      · subst d
        rw [if_pos rfl, if_pos rfl, k6]
      · rw [if_neg (by omega), if_neg d, k6]
    · rw [← k8 w hw]
      exact rdM_e fun k _ => by rw [o _ (by omega) (by omega) (by omega)]
    · obtain ⟨v1, v2, v3⟩ := k10 i hi
      have ei := o (m + 460 + i) (by omega) (by omega) (by omega)
      unfold rdI at v2 v3 ⊢
      rw [ei]
      exact ⟨v1, v2, v3⟩
  exact ⟨w, Z', f', e, A.zj z, e9, fun x hx => o x (by omega) (by omega) (by omega), z⟩
theorem MA.tz1 {α : Type} {o : Option (α × AxS)} {c : Int32} (h : MA Z m f ψ l r β nl nb t pl rs c0 c1 nw wk ni im) (hV : VA ψ nb t nw wk ni im) (q : MTz Z m f o c 1) : ∃ w, MRes Z m f (ψ, l, r, β, nl, nb, t, pl, rs, c0, c1 + 1, nw, wk, ni, im) c o w := h.tzc hV q (by omega) (by rw [if_neg (by omega)]) (by rw [if_pos rfl])
theorem MA.tz0 {α : Type} {o : Option (α × AxS)} {c : Int32} (h : MA Z m f ψ l r β nl nb t pl rs c0 c1 nw wk ni im) (hV : VA ψ nb t nw wk ni im) (q : MTz Z m f o c 0) : ∃ w, MRes Z m f (ψ, l, r, β, nl, nb, t, pl, rs, c0 + 1, c1, nw, wk, ni, im) c o w := h.tzc hV q (by omega) (by rw [if_pos rfl]) (by rw [if_neg (by omega)])
end
