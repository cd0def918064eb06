/-! calls that ask alone: how they end, on both sides -/
def HC (Z : AxS) (b fa sf la sl bo sb : Nat) (f : Nat → Nat → Int32) (ψ : QF) (l : QL) (r : QR) : Prop := LCl Z b fa sf la sl bo sb ∧ rdF f fa = ψ ∧ q_fw ψ ∧ clLaw f la l ∧ (l = [] ∨ q_wf l 0) ∧ rdSt f (b + 31) = r ∧ q_ok ψ 999 r
def HM (Z : AxS) (m : Nat) (f : Nat → Nat → Int32) (ψ : QF) (l : QL) (r : QR) : Prop := LMo Z m ∧ rdG f m = ψ ∧ q_fw ψ ∧ mlLaw f m l ∧ (l = [] ∨ q_wf l 0) ∧ rdM f (m + 440) = r ∧ q_ok ψ 999 r ∧ r 12 = 0
/-- what a call that asks may change: in the class .. -/
def scC (b x : Nat) : Prop := x = b + 17 ∨ x = b + 18 ∨ x = b + 21 ∨ x = b + 22 ∨ x = b + 34 ∨ x = b + 35 ∨ x = b + 36 ∨ x = b + 151 ∨ x = b + 152 ∨ x = b + 153
/-- .. and in the model; and what fields of the model it keeps -/
def scM (m x : Nat) : Prop := x = m + 357 ∨ x = m + 358 ∨ x = m + 441 ∨ (m + 463 ≤ x ∧ x ≤ m + 530)
def scK (k : Nat) : Prop := k = 1 ∨ k = 3 ∨ k = 17 ∨ k = 31 ∨ k = 32 ∨ k = 33 ∨ k = 34
def q_iae : String := "java/lang/IllegalArgumentException"
def q_nse : String := "java/util/NoSuchElementException"
def CQz {α : Type} (Z : AxS) (b : Nat) (f : Nat → Nat → Int32) (o : Option (AxT α)) (v : α) : Prop := ∃ f', o = some (.inl v, axM Z f') ∧ ∀ x, ¬ scC b x → f' x = f x
def CTz {α : Type} (Z : AxS) (b : Nat) (f : Nat → Nat → Int32) (o : Option (AxT α)) (E : String) (k : Nat) : Prop := ∃ f', o = some (.inr E, axM (axS0 Z) f') ∧ ∀ x, ¬ scC b x → f' x = ax2 f b k (f b k + 1) x
def ZJ (m : Nat) (Z Z' : AxS) : Prop := Z'.1 = Z.1 ∧ Z'.2.1 = Z.2.1 ∧ Z'.2.2.2.1 = Z.2.2.2.1 ∧ ∀ a, a ≠ m + 526 → ∀ k, axJ Z' a k = axJ Z a k
theorem ZJ.rf (m : Nat) (Z : AxS) : ZJ m Z Z := ⟨rfl, rfl, rfl, fun _ _ _ => rfl⟩
def MQz {α : Type} (Z : AxS) (m : Nat) (f : Nat → Nat → Int32) (o : Option (α × AxS)) (v : α) : Prop := ∃ Z' f', o = some (v, axM Z' f') ∧ ZJ m Z Z' ∧ f' m 0 = 0 ∧ (∀ k, scK k → f' m k = f m k) ∧ ∀ x, x ≠ m → ¬ scM m x → f' x = f x
def MTz {α : Type} (Z : AxS) (m : Nat) (f : Nat → Nat → Int32) (o : Option (α × AxS)) (c : Int32) (j : Nat) : Prop := ∃ w Z' f', o = some (w, axM Z' f') ∧ ZJ m Z Z' ∧ f' m 0 = c ∧ (∀ k, scK k → f' m k = f m k) ∧ ∀ x, x ≠ m → ¬ scM m x → f' x = ax2 f (m + 2) j (f (m + 2) j + 1) x
section
variable {Z : AxS} {f : Nat → Nat → Int32} {b m : Nat}
theorem qc_need1 {α : Type} (N : Nat) (K : Unit → AxS → Option (AxT α)) : axBT (F_X9_needArgument N b 1 (axM Z f)) K = K () (axM Z f) := rfl
theorem qc_need0 {α : Type} (N : Nat) (h : axL Z b = some (0, 9)) (K : Unit → AxS → Option (AxT α)) : axBT (F_X9_needArgument N b 0 (axM Z f)) K = some (.inr q_iae, axM (axS0 Z) (ax2 f b 15 (f b 15 + 1))) := by
  unfold F_X9_needArgument
  simp only [m_gi h, m_pi h, ↓reduceIte]
  rfl
theorem qc_one1 {α : Type} (N : Nat) {x y : Int32} (h0 : 0 ≤ x) (h1 : x < y) (K : Unit → AxS → Option (AxT α)) : axBT (F_X9_needOne N b x y (axM Z f)) K = K () (axM Z f) := by
  unfold F_X9_needOne
  rw [if_neg (Int32.not_lt.mpr h0), if_pos h1]
  rfl
theorem qc_one0 {α : Type} (N : Nat) (h : axL Z b = some (0, 9)) {x y : Int32} (h0 : ¬ (0 ≤ x ∧ x < y)) (K : Unit → AxS → Option (AxT α)) : axBT (F_X9_needOne N b x y (axM Z f)) K = some (.inr q_nse, axM (axS0 Z) (ax2 f b 14 (f b 14 + 1))) := by
  unfold F_X9_needOne F_X9_needOne_9
  simp only [m_gi h, m_pi h]
  by_cases c : x < 0
  · rw [if_pos c]
    rfl
  · rw [if_neg c, if_neg (fun q => h0 ⟨Int32.not_lt.mp c, q⟩)]
    rfl
theorem CTz.mk {α : Type} {o : Option (AxT α)} {E : String} {k : Nat} (h : o = some (.inr E, axM (axS0 Z) (ax2 f b k (f b k + 1)))) : CTz Z b f o E k := ⟨_, h, fun _ _ => rfl⟩
theorem qm_bad0 (N : Nat) (h : axL Z m = some (0, 10)) (h0 : f m 0 = 0) (w j : Int32) : F_X10_bad N m 0 w j (axM Z f) = some (0, axM Z f) := by
  unfold F_X10_bad F_X10_bad_26
  simp only [m_gi h, h0, ↓reduceIte, m_rz0]
theorem qm_bad1 (N : Nat) (hm : LMo Z m) (h0 : f m 0 = 0) {w : Int32} (hw : w ≠ 0) {j : Nat} (hj : j < 2) : F_X10_bad N m 1 w (Int32.ofNat j) (axM Z f) = some (1, axM Z (ax2 (ax2 f m 0 w) (m + 2) j (f (m + 2) j + 1))) := by
  have h := hm.1
  have p10 : axP Z m 10 = some (m + 2) := hm.2.1 10 2 rfl
  have s2 : axL Z (m + 2) = some (1, 2) := hm.2.2.1 2 _ rfl
  unfold F_X10_bad F_X10_bad_26
  simp only [m_gi h, m_pi h, h0, ↓reduceIte, m_gr h p10, m_ldn s2 hj (by omega), m_stn s2 hj (by omega), ax2_n _ _ _ _ (show m + 2 ≠ m by omega), ax2_n _ _ _ _ (show m ≠ m + 2 by omega), ax2_k]
  rw [if_neg (by decide), if_neg hw, m_rz1]
/-- refused, in the model -/
theorem MTz.mk {α : Type} {o : Option (α × AxS)} {v : α} {c : Int32} {j : Nat} (h : o = some (v, axM Z (ax2 (ax2 (ax2 f m 0 0) m 0 c) (m + 2) j (f (m + 2) j + 1)))) : MTz Z m f o c j := by
  refine ⟨v, Z, _, h, ZJ.rf _ _, by rw [ax2_n _ _ _ _ (by omega), ax2_k], fun k hk => ?_, fun x hx _ => ?_⟩
  · rw [ax2_n _ _ _ _ (by omega), ax2_j _ _ _ _ _ (by unfold scK at hk; omega), ax2_j _ _ _ _ _ (by unfold scK at hk; omega)]
  · unfold ax2
    simp only [if_neg hx]
/-- asked whether it is bad: it is not / it is, the reason told by w and j -/
theorem qm_badF {α : Type} (N : Nat) (h : axL Z m = some (0, 10)) (w j : Int32) (v : α) (K : AxS → Option (α × AxS)) : (axB (F_X10_bad N m 0 w j (axM Z (ax2 f m 0 0))) fun x3 T2 => if x3 = 0 then K T2 else some (v, T2)) = K (axM Z (ax2 f m 0 0)) := by
  rw [qm_bad0 N h (ax2_k _ _ _ _), axB_s, if_pos rfl]
theorem qm_badT {α : Type} (N : Nat) (hm : LMo Z m) {w : Int32} (hw : w ≠ 0) {j : Nat} (hj : j < 2) (v : α) (K : AxS → Option (α × AxS)) : MTz Z m f (axB (F_X10_bad N m 1 w (Int32.ofNat j) (axM Z (ax2 f m 0 0))) fun x3 T2 => if x3 = 0 then K T2 else some (v, T2)) w j := by
  rw [qm_bad1 N hm (ax2_k _ _ _ _) hw hj, axB_s, if_neg (by decide)]
  refine MTz.mk (v := v) ?_
  rw [ax2_n _ _ _ _ (show m + 2 ≠ m by omega)]
theorem qm_badT1 {α : Type} (N : Nat) (hm : LMo Z m) (v : α) (K : AxS → Option (α × AxS)) : MTz Z m f (axB (F_X10_bad N m 1 1 1 (axM Z (ax2 f m 0 0))) fun x3 T2 => if x3 = 0 then K T2 else some (v, T2)) 1 1 := qm_badT N hm (by decide) (j := 1) (by omega) v K
theorem qm_badT2 {α : Type} (N : Nat) (hm : LMo Z m) (v : α) (K : AxS → Option (α × AxS)) : MTz Z m f (axB (F_X10_bad N m 1 2 1 (axM Z (ax2 f m 0 0))) fun x3 T2 => if x3 = 0 then K T2 else some (v, T2)) 2 1 := qm_badT N hm (by decide) (j := 1) (by omega) v K
theorem qm_badN {α : Type} (N : Nat) (hm : LMo Z m) (v : α) (K : AxS → Option (α × AxS)) : MTz Z m f (axB (F_X10_bad N m 1 1 0 (axM Z (ax2 f m 0 0))) fun x3 T2 => if x3 = 0 then K T2 else some (v, T2)) 1 0 := qm_badT N hm (by decide) (j := 0) (by omega) v K
theorem MQz.mk {α : Type} {o : Option (α × AxS)} {v : α} (f' : Nat → Nat → Int32) (h : o = some (v, axM Z f')) (h0 : f' m 0 = 0) (h1 : ∀ k, scK k → f' m k = f m k) (h2 : ∀ x, x ≠ m → ¬ scM m x → f' x = f x) : MQz Z m f o v := ⟨Z, f', h, ZJ.rf _ _, h0, h1, h2⟩
theorem MQz.mk0 {α : Type} {o : Option (α × AxS)} {v : α} (h : o = some (v, axM Z (ax2 f m 0 0))) : MQz Z m f o v := MQz.mk _ h (ax2_k _ _ _ _) (fun k hk => ax2_j _ _ _ _ _ (by unfold scK at hk; omega)) (fun x hx _ => ax2_n _ _ _ _ hx)
def q_told (r : QR) (nl rs x : Int32) : Int32 := if x = 0 then r 0 else if x = 1 then r 1 else if x = 2 then r 2 else if x = 3 then r 3 else if x = 4 then r 4 else if x = 5 then r 5 else if x = 6 then r 6 else if x = 7 then r 7 else if x = 8 then r 9 else if x = 9 then r 10 else if x = 10 then nl else if x = 11 then rs else r 8
theorem qc_told {fa sf la sl bo sb : Nat} {ψ : QF} {l : QL} {r : QR} (N : Nat) (h : HC Z b fa sf la sl bo sb f ψ l r) (x : Int32) : ((0 ≤ x ∧ x ≤ 12) → CQz Z b f (F_X9_told N b x (axM Z f)) (q_told r (f bo 1) (f b 13) x)) ∧ (¬ (0 ≤ x ∧ x ≤ 12) → CTz Z b f (F_X9_told N b x (axM Z f)) q_iae 15) := by
  obtain ⟨hC, -, -, -, -, rfl, -⟩ := h
  have h0 := hC.1.1
  have p8 := hC.2.2.2.2.2.2.2.1
  have s8 := p8.2.1
  unfold F_X9_told F_X9_told_15 F_X9_told_16
  refine ⟨fun c => ?_, fun c => ?_⟩
  · rw [if_neg (Int32.not_lt.mpr c.1), if_neg (Int32.not_lt.mpr c.2), m_is h0, qc_need1]
    simp only [m_gr h0 p8.1, m_gi s8, m_gr h0 hC.1.2.2.2.2.2.1, m_gi hC.2.1.2.2.2.2.1.1, m_gi h0]
    refine ⟨f, ?_, fun x _ => rfl⟩
    unfold q_told
    by_cases c0 : x = 0
    · rw [if_pos c0, if_pos c0]
      rfl
    rw [if_neg c0, if_neg c0]
    by_cases c1 : x = 1
    · rw [if_pos c1, if_pos c1]
      rfl
    rw [if_neg c1, if_neg c1]
    by_cases c2 : x = 2
    · rw [if_pos c2, if_pos c2]
      rfl
    rw [if_neg c2, if_neg c2]
    by_cases c3 : x = 3
    · rw [if_pos c3, if_pos c3]
      rfl
    rw [if_neg c3, if_neg c3]
    by_cases c4 : x = 4
    · rw [if_pos c4, if_pos c4]
      rfl
    rw [if_neg c4, if_neg c4]
    by_cases c5 : x = 5
    · rw [if_pos c5, if_pos c5]
      rfl
    rw [if_neg c5, if_neg c5]
    by_cases c6 : x = 6
    · rw [if_pos c6, if_pos c6]
      rfl
    rw [if_neg c6, if_neg c6]
    by_cases c7 : x = 7
    · rw [if_pos c7, if_pos c7]
      rfl
    rw [if_neg c7, if_neg c7]
    by_cases c8 : x = 8
    · rw [if_pos c8, if_pos c8]
      rfl
    rw [if_neg c8, if_neg c8]
    by_cases c9 : x = 9
    · rw [if_pos c9, if_pos c9]
      rfl
    rw [if_neg c9, if_neg c9]
    by_cases c10 : x = 10
    · rw [if_pos c10, if_pos c10]
    rw [if_neg c10, if_neg c10]
    by_cases c11 : x = 11
    · rw [if_pos c11, if_pos c11]
    rw [if_neg c11, if_neg c11]
    rfl
  · rw [m_is h0, qc_need0 N h0]
    by_cases c1 : x < 0
    · rw [if_pos c1]
      exact CTz.mk rfl
    · rw [if_neg c1, if_pos (Int32.not_le.mp (fun q => c ⟨Int32.not_lt.mp c1, q⟩))]
      exact CTz.mk rfl
theorem qm_told {ψ : QF} {l : QL} {r : QR} (N : Nat) (h : HM Z m f ψ l r) (x : Int32) : ((0 ≤ x ∧ x ≤ 12) → MQz Z m f (F_X10_told N m x (axM Z f)) (q_told r (f m 31) (f m 33) x)) ∧ (¬ (0 ≤ x ∧ x ≤ 12) → MTz Z m f (F_X10_told N m x (axM Z f)) 1 1) := by
  obtain ⟨hm, -, -, -, -, rfl, -, -⟩ := h
  have h0 := hm.1
  have p27 : axP Z m 27 = some (m + 440) := hm.2.1 27 440 rfl
  have s440 : axL Z (m + 440) = some (1, 29) := hm.2.2.1 440 _ rfl
  have F0 : ∀ k, k < 29 → ax2 f m 0 0 (m + 440) k = rdM f (m + 440) k := fun k hk => by rw [ax2_n _ _ _ _ (by omega), rdM_k f (m + 440) hk]
  unfold F_X10_told F_X10_told_21
  simp only [m_pi h0, m_in, axB_s, m_is h0]
  refine ⟨fun c => ?_, fun c => ?_⟩
  · rw [if_pos c, if_neg (by decide), qm_badF N h0]
    refine MQz.mk0 ?_
    simp only [m_gr h0 p27, m_ld29_9 s440, m_ld29_10 s440, m_ld29_8 s440, m_gi h0, F0 9 (by omega), F0 10 (by omega), F0 8 (by omega), ax2_j _ _ _ _ _ (show 31 ≠ 0 by omega), ax2_j _ _ _ _ _ (show 33 ≠ 0 by omega)]
    unfold q_told
    by_cases c0 : x = 0
    · subst c0; rw [if_pos rfl, m_ld29_0 s440, F0 0 (by omega)]; rfl
    rw [if_neg c0, if_neg c0]
    by_cases c1 : x = 1
    · subst c1; rw [if_pos rfl, m_ld29_1 s440, F0 1 (by omega)]; rfl
    rw [if_neg c1, if_neg c1]
    by_cases c2 : x = 2
    · subst c2; rw [if_pos rfl, m_ld29_2 s440, F0 2 (by omega)]; rfl
    rw [if_neg c2, if_neg c2]
    by_cases c3 : x = 3
    · subst c3; rw [if_pos rfl, m_ld29_3 s440, F0 3 (by omega)]; rfl
    rw [if_neg c3, if_neg c3]
    by_cases c4 : x = 4
    · subst c4; rw [if_pos rfl, m_ld29_4 s440, F0 4 (by omega)]; rfl
    rw [if_neg c4, if_neg c4]
    by_cases c5 : x = 5
    · subst c5; rw [if_pos rfl, m_ld29_5 s440, F0 5 (by omega)]; rfl
    rw [if_neg c5, if_neg c5]
    by_cases c6 : x = 6
    · subst c6; rw [if_pos rfl, m_ld29_6 s440, F0 6 (by omega)]; rfl
    rw [if_neg c6, if_neg c6]
    by_cases c7 : x = 7
    · subst c7; rw [if_pos rfl, m_ld29_7 s440, F0 7 (by omega)]; rfl
    rw [if_neg c7, if_neg c7]
    by_cases c8 : x = 8
    · rw [if_pos c8, if_pos c8]
    rw [if_neg c8, if_neg c8]
    by_cases c9 : x = 9
    · rw [if_pos c9, if_pos c9]
    rw [if_neg c9, if_neg c9]
    by_cases c10 : x = 10
    · rw [if_pos c10, if_pos c10]
    rw [if_neg c10, if_neg c10]
    by_cases c11 : x = 11
    · rw [if_pos c11, if_pos c11]
    rw [if_neg c11, if_neg c11]
  · rw [if_neg c, if_pos rfl]
    exact qm_badT1 N hm _ _
end
