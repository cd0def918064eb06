/-! texts: the facts while they are read -/
def FA (φ : QF) (x h : Nat → Int32) (R : Nat → Nat → Int32) : Prop := (∀ k, k < 7 → x k = φ 0 k) ∧ (∀ k, k < 12 → h k = φ 1 k) ∧ ∀ i, i < 4 → ∀ k, k < (φ 0 (3 + i)).toNatClampNeg → R i k = φ (2 + i) k
def q_f2 (φ : QF) (a k : Nat) (v : Int32) : QF := ax2 φ a k v
theorem FA.sc {φ : QF} {x h : Nat → Int32} {R : Nat → Nat → Int32} (H : FA φ x h R) {k : Nat} {v : Int32} {x' : Nat → Int32} (hk : k < 3) (e : ∀ j, j < 7 → x' j = if j = k then v else x j) : FA (q_f2 φ 0 k v) x' h R := by
  obtain ⟨h1, h2, h3⟩ := H
  unfold q_f2
  refine ⟨fun j hj => ?_, fun j hj => ?_, fun i hi j hj => ?_⟩
  · rw [e j hj, ax2_a]
    by_cases c : j = k
    · rw [if_pos c, if_pos c]
    · rw [if_neg c, if_neg c, h1 j hj]
  · rw [ax2_n _ _ _ _ (by omega)]
    exact h2 j hj
  · rw [ax2_n _ _ _ _ (by omega)]
    rw [ax2_j _ _ _ _ _ (by omega)] at hj
    exact h3 i hi j hj
theorem FA.hv {φ : QF} {x h : Nat → Int32} {R : Nat → Nat → Int32} (H : FA φ x h R) {k : Nat} {v : Int32} {h' : Nat → Int32} (e : ∀ j, j < 12 → h' j = if j = k then v else h j) : FA (q_f2 φ 1 k v) x h' R := by
  obtain ⟨h1, h2, h3⟩ := H
  unfold q_f2
  refine ⟨fun j hj => ?_, fun j hj => ?_, fun i hi j hj => ?_⟩
  · rw [ax2_n _ _ _ _ (by omega)]
    exact h1 j hj
  · rw [e j hj, ax2_a]
    by_cases c : j = k
    · rw [if_pos c, if_pos c]
    · rw [if_neg c, if_neg c, h2 j hj]
  · rw [ax2_n _ _ _ _ (by omega)]
    rw [ax2_n _ _ _ _ (by omega)] at hj
    exact h3 i hi j hj
def q_f3 (φ : QF) (i c : Nat) (v : Int32) : QF := q_f2 (q_f2 φ (2 + i) c v) 0 (3 + i) (Int32.ofNat (c + 1))
theorem FA.rw {φ : QF} {x h : Nat → Int32} {R : Nat → Nat → Int32} (H : FA φ x h R) {i c : Nat} {v : Int32} {x' : Nat → Int32} {R' : Nat → Nat → Int32} (hi : i < 4) (hc : φ 0 (3 + i) = Int32.ofNat c) (hc2 : c < 100) (e : ∀ j, j < 7 → x' j = if j = 3 + i then Int32.ofNat (c + 1) else x j) (e2 : ∀ j, j < 4 → ∀ k, R' j k = if j = i ∧ k = c then v else R j k) : FA (q_f3 φ i c v) x' h R' := by
  obtain ⟨h1, h2, h3⟩ := H
  unfold q_f3 q_f2
  refine ⟨fun j hj => ?_, fun j hj => ?_, fun a ha j hj => ?_⟩
  · rw [e j hj, ax2_a]
    by_cases z : j = 3 + i
    · rw [if_pos z, if_pos z]
    · rw [if_neg z, if_neg z, ax2_n _ _ _ _ (by omega), h1 j hj]
  · rw [ax2_n _ _ _ _ (by omega), ax2_n _ _ _ _ (by omega)]
    exact h2 j hj
  · rw [ax2_a] at hj
    rw [ax2_n _ _ _ _ (by omega), e2 a ha]
    by_cases z : a = i
    · rw [z] at hj ⊢
      rw [if_pos rfl, qi_tn (by omega)] at hj
      rw [ax2_a]
      by_cases z2 : j = c
      · rw [if_pos ⟨rfl, z2⟩, if_pos z2]
      · rw [if_neg (fun q => z2 q.2), if_neg z2]
        exact h3 i hi j (by rw [hc, qi_tn (by omega)]; omega)
    · rw [if_neg (fun q => z q.1), ax2_n _ _ _ _ (by omega)]
      rw [if_neg (by omega), ax2_n _ _ _ _ (by omega)] at hj
      exact h3 a ha j hj
/-- the class's, the model's -/
def FAc (f : Nat → Nat → Int32) (a : Nat) (φ : QF) : Prop := FA φ (f a) (f (a + 1)) (fun i => f (a + 2 + i))
def FAm (f : Nat → Nat → Int32) (m : Nat) (φ : QF) : Prop := FA φ (fun k => f (m + 3) (q_tp k)) (f (m + 5)) (fun i => f (m + 8 + i))
theorem FAc.fr {f g : Nat → Nat → Int32} {a : Nat} {φ : QF} (h : FAc f a φ) (e : ∀ i, i < 6 → g (a + i) = f (a + i)) : FAc g a φ := by
  unfold FAc
  have e1 : (fun i => g (a + 2 + i)) = fun i => if i < 4 then f (a + 2 + i) else g (a + 2 + i) := funext fun i => by
    by_cases c : i < 4
    · rw [if_pos c, Nat.add_assoc]
      exact e (2 + i) (by omega)
    · rw [if_neg c]
  rw [show g a = f a from e 0 (by omega), show g (a + 1) = f (a + 1) from e 1 (by omega)]
  refine ⟨h.1, h.2.1, fun i hi k hk => ?_⟩
  show g (a + 2 + i) k = _
  rw [show g (a + 2 + i) = f (a + 2 + i) by rw [Nat.add_assoc]; exact e (2 + i) (by omega)]
  exact h.2.2 i hi k hk
theorem FAm.fr {f g : Nat → Nat → Int32} {m : Nat} {φ : QF} (h : FAm f m φ) (e : ∀ i, i < 9 → g (m + 3 + i) = f (m + 3 + i)) : FAm g m φ := by
  unfold FAm
  rw [show g (m + 3) = f (m + 3) from e 0 (by omega), show g (m + 5) = f (m + 5) from e 2 (by omega)]
  refine ⟨h.1, h.2.1, fun i hi k hk => ?_⟩
  show g (m + 8 + i) k = _
  rw [show g (m + 8 + i) = f (m + 8 + i) by have := e (5 + i) (by omega); rwa [← Nat.add_assoc] at this]
  exact h.2.2 i hi k hk
def q_msk (φ : QF) : QF := fun t k => match t with
  | 0 => if k < 7 then φ 0 k else 0
  | 1 => if k < 12 then φ 1 k else 0
  | 2 => if k < (φ 0 3).toNatClampNeg then φ 2 k else 0
  | 3 => if k < (φ 0 4).toNatClampNeg then φ 3 k else 0
  | 4 => if k < (φ 0 5).toNatClampNeg then φ 4 k else 0
  | 5 => if k < (φ 0 6).toNatClampNeg then φ 5 k else 0
  | _ => 0
theorem if_c {α : Type} {p : Prop} [Decidable p] {a b z : α} (h : p → a = b) : (if p then a else z) = if p then b else z := by
  by_cases c : p
  · rw [if_pos c, if_pos c, h c]
  · rw [if_neg c, if_neg c]
theorem q_fx {ξ ζ : QF} (h0 : ∀ k, ξ 0 k = ζ 0 k) (h1 : ∀ k, ξ 1 k = ζ 1 k) (h2 : ∀ k, ξ 2 k = ζ 2 k) (h3 : ∀ k, ξ 3 k = ζ 3 k) (h4 : ∀ k, ξ 4 k = ζ 4 k) (h5 : ∀ k, ξ 5 k = ζ 5 k) (h6 : ∀ t k, ξ (t + 6) k = ζ (t + 6) k) : ξ = ζ := by
  refine funext fun t => funext fun k => ?_
  by_cases c0 : t = 0
  · rw [c0]; exact h0 k
  by_cases c1 : t = 1
  · rw [c1]; exact h1 k
  by_cases c2 : t = 2
  · rw [c2]; exact h2 k
  by_cases c3 : t = 3
  · rw [c3]; exact h3 k
  by_cases c4 : t = 4
  · rw [c4]; exact h4 k
  by_cases c5 : t = 5
  · rw [c5]; exact h5 k
  obtain ⟨q, rfl⟩ : ∃ q, t = q + 6 := ⟨t - 6, by omega⟩
  exact h6 q k
theorem rdF_e6 (f : Nat → Nat → Int32) (a t k : Nat) : rdF f a (t + 6) k = 0 := rfl
theorem q_msk_e6 (φ : QF) (t k : Nat) : q_msk φ (t + 6) k = 0 := rfl
theorem rdF_e0 (f : Nat → Nat → Int32) (a k : Nat) : rdF f a 0 k = if k < 7 then f a k else 0 := rfl
theorem rdF_e1 (f : Nat → Nat → Int32) (a k : Nat) : rdF f a 1 k = if k < 12 then f (a + 1) k else 0 := rfl
theorem rdF_e2 (f : Nat → Nat → Int32) (a k : Nat) : rdF f a 2 k = if k < (f a 3).toNatClampNeg then f (a + 2) k else 0 := rfl
theorem rdF_e3 (f : Nat → Nat → Int32) (a k : Nat) : rdF f a 3 k = if k < (f a 4).toNatClampNeg then f (a + 3) k else 0 := rfl
theorem rdF_e4 (f : Nat → Nat → Int32) (a k : Nat) : rdF f a 4 k = if k < (f a 5).toNatClampNeg then f (a + 4) k else 0 := rfl
theorem rdF_e5 (f : Nat → Nat → Int32) (a k : Nat) : rdF f a 5 k = if k < (f a 6).toNatClampNeg then f (a + 5) k else 0 := rfl
theorem q_msk_e0 (φ : QF) (k : Nat) : q_msk φ 0 k = if k < 7 then φ 0 k else 0 := rfl
theorem q_msk_e1 (φ : QF) (k : Nat) : q_msk φ 1 k = if k < 12 then φ 1 k else 0 := rfl
theorem q_msk_e2 (φ : QF) (k : Nat) : q_msk φ 2 k = if k < (φ 0 3).toNatClampNeg then φ 2 k else 0 := rfl
theorem q_msk_e3 (φ : QF) (k : Nat) : q_msk φ 3 k = if k < (φ 0 4).toNatClampNeg then φ 3 k else 0 := rfl
theorem q_msk_e4 (φ : QF) (k : Nat) : q_msk φ 4 k = if k < (φ 0 5).toNatClampNeg then φ 4 k else 0 := rfl
theorem q_msk_e5 (φ : QF) (k : Nat) : q_msk φ 5 k = if k < (φ 0 6).toNatClampNeg then φ 5 k else 0 := rfl
theorem FAc.rd {f : Nat → Nat → Int32} {a : Nat} {φ : QF} (h : FAc f a φ) : rdF f a = q_msk φ := by
  obtain ⟨h1, h2, h3⟩ := h
  have e3 : f a 3 = φ 0 3 := h1 3 (by omega)
  have e4 : f a 4 = φ 0 4 := h1 4 (by omega)
  have e5 : f a 5 = φ 0 5 := h1 5 (by omega)
  have e6 : f a 6 = φ 0 6 := h1 6 (by omega)
  refine q_fx (fun k => ?_) (fun k => ?_) (fun k => ?_) (fun k => ?_) (fun k => ?_) (fun k => ?_) (fun t k => ?_)
  · rw [rdF_e0, q_msk_e0]
    exact if_c (h1 k)
  · rw [rdF_e1, q_msk_e1]
    exact if_c (h2 k)
  · rw [rdF_e2, q_msk_e2, e3]
    exact if_c (h3 0 (by omega) k)
  · rw [rdF_e3, q_msk_e3, e4]
    exact if_c (h3 1 (by omega) k)
  · rw [rdF_e4, q_msk_e4, e5]
    exact if_c (h3 2 (by omega) k)
  · rw [rdF_e5, q_msk_e5, e6]
    exact if_c (h3 3 (by omega) k)
  · rw [rdF_e6, q_msk_e6]
/-- the facts may be told: kept -/
theorem q_fw_sc {φ : QF} (h : q_fw φ) {k : Nat} {w B : Nat} (hk : (k = 0 ∧ B = 9999) ∨ (k = 1 ∧ B = 20) ∨ (k = 2 ∧ B = 999)) (hw : w ≤ B) : q_fw (q_f2 φ 0 k (Int32.ofNat w)) := by
  obtain ⟨⟨nv, nc, nm, nh, a1, a2, a3, a4, a5, a6, a7, a8, a9, a10, a11, a12⟩, b1, b2, b3, b4⟩ := h
  unfold q_f2
  have e : ∀ j, j ≠ k → ax2 φ 0 k (Int32.ofNat w) 0 j = φ 0 j := fun j hj => ax2_j _ _ _ _ _ hj
  have e2 : ∀ a, a ≠ 0 → ax2 φ 0 k (Int32.ofNat w) a = φ a := fun a ha => ax2_n _ _ _ _ ha
  unfold q_fw
  rw [e2 1 (by omega), e2 2 (by omega), e2 3 (by omega), e2 4 (by omega), e2 5 (by omega), e 3 (by omega), e 4 (by omega), e 5 (by omega), e 6 (by omega)]
  refine ⟨⟨nv, nc, nm, nh, a1, a2, a3, a4, a5, a6, a7, a8, a9, a10, a11, a12⟩, ?_, ?_, ?_, b4⟩
  · by_cases c : k = 1
    · rw [c, ax2_k]; exact ⟨w, by omega, rfl⟩
    · rw [e 1 (by omega)]; exact b1
  · by_cases c : k = 0
    · rw [c, ax2_k]; exact ⟨w, by omega, rfl⟩
    · rw [e 0 (by omega)]; exact b2
  · by_cases c : k = 2
    · rw [c, ax2_k]; exact ⟨w, by omega, rfl⟩
    · rw [e 2 (by omega)]; exact b3
theorem q_fw_hv {φ : QF} (h : q_fw φ) {k : Nat} {w : Nat} (hw : w ≤ 99) : q_fw (q_f2 φ 1 k (Int32.ofNat w)) := by
  obtain ⟨b0, b1, b2, b3, b4⟩ := h
  unfold q_f2
  have e2 : ∀ a, a ≠ 1 → ax2 φ 1 k (Int32.ofNat w) a = φ a := fun a ha => ax2_n _ _ _ _ ha
  unfold q_fw
  rw [e2 0 (by omega), e2 2 (by omega), e2 3 (by omega), e2 4 (by omega), e2 5 (by omega)]
  refine ⟨b0, b1, b2, b3, fun j hj => ?_⟩
  rw [ax2_a]
  by_cases c : j = k
  · rw [if_pos c]; exact ⟨w, by omega, rfl⟩
  · rw [if_neg c]; exact b4 j hj
theorem ax2_all {φ : QF} {a c w lo hi : Nat} (hl : lo ≤ w) (hw : w ≤ hi) (h : ∀ v, v < c → ∃ x, x ≤ hi ∧ lo ≤ x ∧ φ a v = Int32.ofNat x) : ∀ v, v < c + 1 → ∃ x, x ≤ hi ∧ lo ≤ x ∧ ax2 φ a c (Int32.ofNat w) a v = Int32.ofNat x := fun v hv => by
  rw [ax2_a]
  by_cases z : v = c
  · rw [if_pos z]; exact ⟨w, hw, hl, rfl⟩
  · rw [if_neg z]; exact h v (by omega)

theorem q_fw_r0 {φ : QF} (h : q_fw φ) {c w : Nat} (hc : φ 0 3 = Int32.ofNat c) (hm : c < 6) (hl : 1 ≤ w) (hw : w ≤ 20) : q_fw (q_f3 φ 0 c (Int32.ofNat w)) := by
  obtain ⟨⟨nv, nc, nm, nh, a1, a2, a3, a4, a5, a6, a7, a8, a9, a10, a11, a12⟩, b1, b2, b3, b4⟩ := h
  have ec : c = nv := by
    rw [a1, qi_eq (by omega) (by omega)] at hc
    exact hc.symm
  subst ec
  unfold q_f3 q_f2
  have e : ∀ j, j ≠ 3 → ax2 (ax2 φ (2 + 0) c (Int32.ofNat w)) 0 (3 + 0) (Int32.ofNat (c + 1)) 0 j = φ 0 j := fun j hj => by
    rw [ax2_j _ _ _ _ _ (by omega), ax2_n _ _ _ _ (by omega)]
  have e2 : ∀ a, a ≠ 0 → ax2 (ax2 φ (2 + 0) c (Int32.ofNat w)) 0 (3 + 0) (Int32.ofNat (c + 1)) a = ax2 φ (2 + 0) c (Int32.ofNat w) a := fun a ha => ax2_n _ _ _ _ ha
  have e3 : ∀ a, a ≠ 2 → ax2 φ (2 + 0) c (Int32.ofNat w) a = φ a := fun a ha => ax2_n _ _ _ _ (by omega)
  have e4 : ax2 (ax2 φ (2 + 0) c (Int32.ofNat w)) 0 (3 + 0) (Int32.ofNat (c + 1)) 0 3 = Int32.ofNat (c + 1) := ax2_k _ _ _ _
  unfold q_fw
  rw [e2 1 (by omega), e2 2 (by omega), e2 3 (by omega), e2 4 (by omega), e2 5 (by omega), e3 1 (by omega), e3 3 (by omega), e3 4 (by omega), e3 5 (by omega), e4, e 4 (by omega), e 5 (by omega), e 6 (by omega), e 0 (by omega), e 1 (by omega), e 2 (by omega)]
  exact ⟨⟨c + 1, nc, nm, nh, rfl, a2, a3, a4, (by omega), a6, a7, a8, ax2_all hl hw a9, a10, a11, a12⟩, b1, b2, b3, b4⟩
theorem q_fw_r1 {φ : QF} (h : q_fw φ) {c w : Nat} (hc : φ 0 4 = Int32.ofNat c) (hm : c < 8) (hl : 0 ≤ w) (hw : w ≤ 9) : q_fw (q_f3 φ 1 c (Int32.ofNat w)) := by
  obtain ⟨⟨nv, nc, nm, nh, a1, a2, a3, a4, a5, a6, a7, a8, a9, a10, a11, a12⟩, b1, b2, b3, b4⟩ := h
  have ec : c = nc := by
    rw [a2, qi_eq (by omega) (by omega)] at hc
    exact hc.symm
  subst ec
  unfold q_f3 q_f2
  have e : ∀ j, j ≠ 4 → ax2 (ax2 φ (2 + 1) c (Int32.ofNat w)) 0 (3 + 1) (Int32.ofNat (c + 1)) 0 j = φ 0 j := fun j hj => by
    rw [ax2_j _ _ _ _ _ (by omega), ax2_n _ _ _ _ (by omega)]
  have e2 : ∀ a, a ≠ 0 → ax2 (ax2 φ (2 + 1) c (Int32.ofNat w)) 0 (3 + 1) (Int32.ofNat (c + 1)) a = ax2 φ (2 + 1) c (Int32.ofNat w) a := fun a ha => ax2_n _ _ _ _ ha
  have e3 : ∀ a, a ≠ 3 → ax2 φ (2 + 1) c (Int32.ofNat w) a = φ a := fun a ha => ax2_n _ _ _ _ (by omega)
  have e4 : ax2 (ax2 φ (2 + 1) c (Int32.ofNat w)) 0 (3 + 1) (Int32.ofNat (c + 1)) 0 4 = Int32.ofNat (c + 1) := ax2_k _ _ _ _
  unfold q_fw
  rw [e2 1 (by omega), e2 2 (by omega), e2 3 (by omega), e2 4 (by omega), e2 5 (by omega), e3 1 (by omega), e3 2 (by omega), e3 4 (by omega), e3 5 (by omega), e 3 (by omega), e4, e 5 (by omega), e 6 (by omega), e 0 (by omega), e 1 (by omega), e 2 (by omega)]
  exact ⟨⟨nv, c + 1, nm, nh, a1, rfl, a3, a4, a5, (by omega), (by omega), a8, a9, (fun v hv => by obtain ⟨x, x1, -, x2⟩ := ax2_all (lo := 0) (Nat.zero_le _) hw (fun v hv => by obtain ⟨y, y1, y2⟩ := a10 v hv; exact ⟨y, y1, Nat.zero_le _, y2⟩) v hv; exact ⟨x, x1, x2⟩), a11, a12⟩, b1, b2, b3, b4⟩
theorem q_fw_r2 {φ : QF} (h : q_fw φ) {c w : Nat} (hc : φ 0 5 = Int32.ofNat c) (hm : c < 8) (hm2 : ∀ d, φ 0 4 = Int32.ofNat d → d < 100 → c < d) (hl : 0 ≤ w) (hw : w ≤ 40) : q_fw (q_f3 φ 2 c (Int32.ofNat w)) := by
  obtain ⟨⟨nv, nc, nm, nh, a1, a2, a3, a4, a5, a6, a7, a8, a9, a10, a11, a12⟩, b1, b2, b3, b4⟩ := h
  have ec : c = nm := by
    rw [a3, qi_eq (by omega) (by omega)] at hc
    exact hc.symm
  subst ec
  unfold q_f3 q_f2
  have e : ∀ j, j ≠ 5 → ax2 (ax2 φ (2 + 2) c (Int32.ofNat w)) 0 (3 + 2) (Int32.ofNat (c + 1)) 0 j = φ 0 j := fun j hj => by
    rw [ax2_j _ _ _ _ _ (by omega), ax2_n _ _ _ _ (by omega)]
  have e2 : ∀ a, a ≠ 0 → ax2 (ax2 φ (2 + 2) c (Int32.ofNat w)) 0 (3 + 2) (Int32.ofNat (c + 1)) a = ax2 φ (2 + 2) c (Int32.ofNat w) a := fun a ha => ax2_n _ _ _ _ ha
  have e3 : ∀ a, a ≠ 4 → ax2 φ (2 + 2) c (Int32.ofNat w) a = φ a := fun a ha => ax2_n _ _ _ _ (by omega)
  have e4 : ax2 (ax2 φ (2 + 2) c (Int32.ofNat w)) 0 (3 + 2) (Int32.ofNat (c + 1)) 0 5 = Int32.ofNat (c + 1) := ax2_k _ _ _ _
  unfold q_fw
  rw [e2 1 (by omega), e2 2 (by omega), e2 3 (by omega), e2 4 (by omega), e2 5 (by omega), e3 1 (by omega), e3 2 (by omega), e3 3 (by omega), e3 5 (by omega), e 3 (by omega), e 4 (by omega), e4, e 6 (by omega), e 0 (by omega), e 1 (by omega), e 2 (by omega)]
  exact ⟨⟨nv, nc, c + 1, nh, a1, a2, rfl, a4, a5, a6, (by have := hm2 nc a2 (by omega); omega), a8, a9, a10, (fun v hv => by obtain ⟨x, x1, -, x2⟩ := ax2_all (lo := 0) (Nat.zero_le _) hw (fun v hv => by obtain ⟨y, y1, y2⟩ := a11 v hv; exact ⟨y, y1, Nat.zero_le _, y2⟩) v hv; exact ⟨x, x1, x2⟩), a12⟩, b1, b2, b3, b4⟩
theorem q_fw_r3 {φ : QF} (h : q_fw φ) {c w : Nat} (hc : φ 0 6 = Int32.ofNat c) (hm : c < 4) (hl : 1 ≤ w) (hw : w ≤ 99) : q_fw (q_f3 φ 3 c (Int32.ofNat w)) := by
  obtain ⟨⟨nv, nc, nm, nh, a1, a2, a3, a4, a5, a6, a7, a8, a9, a10, a11, a12⟩, b1, b2, b3, b4⟩ := h
  have ec : c = nh := by
    rw [a4, qi_eq (by omega) (by omega)] at hc
    exact hc.symm
  subst ec
  unfold q_f3 q_f2
  have e : ∀ j, j ≠ 6 → ax2 (ax2 φ (2 + 3) c (Int32.ofNat w)) 0 (3 + 3) (Int32.ofNat (c + 1)) 0 j = φ 0 j := fun j hj => by
    rw [ax2_j _ _ _ _ _ (by omega), ax2_n _ _ _ _ (by omega)]
  have e2 : ∀ a, a ≠ 0 → ax2 (ax2 φ (2 + 3) c (Int32.ofNat w)) 0 (3 + 3) (Int32.ofNat (c + 1)) a = ax2 φ (2 + 3) c (Int32.ofNat w) a := fun a ha => ax2_n _ _ _ _ ha
  have e3 : ∀ a, a ≠ 5 → ax2 φ (2 + 3) c (Int32.ofNat w) a = φ a := fun a ha => ax2_n _ _ _ _ (by omega)
  have e4 : ax2 (ax2 φ (2 + 3) c (Int32.ofNat w)) 0 (3 + 3) (Int32.ofNat (c + 1)) 0 6 = Int32.ofNat (c + 1) := ax2_k _ _ _ _
  unfold q_fw
  rw [e2 1 (by omega), e2 2 (by omega), e2 3 (by omega), e2 4 (by omega), e2 5 (by omega), e3 1 (by omega), e3 2 (by omega), e3 3 (by omega), e3 4 (by omega), e 3 (by omega), e 4 (by omega), e 5 (by omega), e4, e 0 (by omega), e 1 (by omega), e 2 (by omega)]
  exact ⟨⟨nv, nc, nm, c + 1, a1, a2, a3, rfl, a5, a6, a7, (by omega), a9, a10, a11, ax2_all hl hw a12⟩, b1, b2, b3, b4⟩
theorem q_fw_msk {φ : QF} (h : q_fw φ) : q_fw (q_msk φ) := by
  obtain ⟨⟨nv, nc, nm, nh, a1, a2, a3, a4, a5, a6, a7, a8, a9, a10, a11, a12⟩, b1, b2, b3, b4⟩ := h
  refine ⟨⟨nv, nc, nm, nh, a1, a2, a3, a4, a5, a6, a7, a8, fun v hv => ?_, fun v hv => ?_, fun v hv => ?_, fun v hv => ?_⟩, b1, b2, b3, fun v hv => ?_⟩
  · rw [show q_msk φ 2 v = φ 2 v from if_pos (by rw [a1, qi_tn (by omega)]; exact hv)]
    exact a9 v hv
  · rw [show q_msk φ 3 v = φ 3 v from if_pos (by rw [a2, qi_tn (by omega)]; exact hv)]
    exact a10 v hv
  · rw [show q_msk φ 4 v = φ 4 v from if_pos (by rw [a3, qi_tn (by omega)]; exact hv)]
    exact a11 v hv
  · rw [show q_msk φ 5 v = φ 5 v from if_pos (by rw [a4, qi_tn (by omega)]; exact hv)]
    exact a12 v hv
  · rw [show q_msk φ 1 v = φ 1 v from if_pos hv]
    exact b4 v hv
