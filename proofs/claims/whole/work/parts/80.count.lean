/-! count: the model -/
/-- the model's counting rows -/
def aliM (f : Nat → Nat → Int32) (m : Nat) (A : QF) : Prop := ∀ i, i < 60 → ∀ v, v < 1000 → f (m + 466 + i) v = A i v
def scA (m x : Nat) : Prop := scS m x ∨ (m + 466 ≤ x ∧ x ≤ m + 525)
theorem scA_M {m x : Nat} (h : ¬ scM m x) : ¬ scA m x := by
  unfold scM at h
  unfold scA scS
  omega
section
variable {Z : AxS} {b m fa sf la sl bo sb N B : Nat} {ψ : QF} {l : QL} {r ρ : QR} {f f0 : Nat → Nat → Int32}
theorem HM.sa (h : HM Z m f0 ψ l r) (hf : ∀ x, ¬ scA m x → f x = f0 x) : HM Z m f ψ l r := h.sc (fun x hx => hf x (scA_M hx))
theorem mlB.sa {β : QR} {nl : Nat} (h : mlB f0 m β nl) (hf : ∀ x, ¬ scA m x → f x = f0 x) : mlB f m β nl := h.sc (fun x hx => hf x (scA_M hx))
theorem LMo.ali (hm : LMo Z m) : axP Z m 40 = some (m + 465) ∧ axL Z (m + 465) = some (0 + 3, 60) ∧ ∀ j, j < 60 → axP Z (m + 465) j = some (m + 466 + j) ∧ axL Z (m + 466 + j) = some (1, 1000) := ⟨hm.2.1 40 465 rfl, hm.2.2.1 465 _ rfl, fun j hj => hm.2.2.2 465 60 1000 rfl j hj⟩
theorem qm_count47 (hm : LMo Z m) {j : Nat} (hj : j < 60) (K : Nat → Int32 → Int32 → Int32 → Int32 → AxS → Option (Int32 × AxS)) (w B1 L1 : Int32) : ∀ (n v fu : Nat) (f : Nat → Nat → Int32), v + n = 1000 → n < fu → ∃ f', F_X10_count_47 N K fu m w B1 L1 (Int32.ofNat j) (Int32.ofNat v) (axM Z f) = K m w B1 L1 (Int32.ofNat (j + 1)) (axM Z f') ∧ (∀ u, u < 1000 → f' (m + 466 + j) u = if v ≤ u then 0 else f (m + 466 + j) u) ∧ ∀ x, x ≠ m + 466 + j → f' x = f x := by
  obtain ⟨a1, a2, a3⟩ := hm.ali
  obtain ⟨a4, a5⟩ := a3 j hj
  intro n
  induction n with
  | zero =>
    intro v fu f hv hfu
    obtain ⟨fu, rfl⟩ : ∃ q, fu = q + 1 := ⟨fu - 1, by omega⟩
    show ∃ f', F_X10_count_47b N K (F_X10_count_47 N K fu) m w B1 L1 (Int32.ofNat j) (Int32.ofNat v) (axM Z f) = _ ∧ _
    unfold F_X10_count_47b
    rw [if_pos (show (999 : Int32) < Int32.ofNat v from qi_gt (i := 999) (by omega) (by omega)), qi_s]
    exact ⟨f, rfl, fun u hu => by rw [if_neg (by omega)], fun _ _ => rfl⟩
  | succ n ih =>
    intro v fu f hv hfu
    obtain ⟨fu, rfl⟩ : ∃ q, fu = q + 1 := ⟨fu - 1, by omega⟩
    show ∃ f', F_X10_count_47b N K (F_X10_count_47 N K fu) m w B1 L1 (Int32.ofNat j) (Int32.ofNat v) (axM Z f) = _ ∧ _
    unfold F_X10_count_47b
    rw [if_neg (show ¬ (999 : Int32) < Int32.ofNat v from qi_ngt (i := 999) (by omega) (by omega)), m_gr hm.1 a1, m_ldrn a2 (by omega) hj (by omega) a4, m_stn a5 (show v < 1000 by omega) (by omega), qi_s]
    obtain ⟨f', e, g1, g2⟩ := ih (v + 1) fu (ax2 f (m + 466 + j) v 0) (by omega) (by omega)
    refine ⟨f', e, fun u hu => ?_, fun x hx => by rw [g2 x hx, ax2_n _ _ _ _ hx]⟩
    rw [g1 u hu, ax2_a]
    by_cases c1 : v + 1 ≤ u
    · rw [if_pos c1, if_pos (by omega)]
    · rw [if_neg c1]
      by_cases c2 : u = v
      · rw [if_pos c2, if_pos (by omega)]
      · rw [if_neg c2, if_neg (by omega)]
theorem qm_count37 (hN : 2000 < N) (hm : LMo Z m) (w B1 L1 : Int32) : ∀ (n j fu : Nat) (f : Nat → Nat → Int32), j + n = 60 → n < fu → (∀ i, i < j → ∀ v, v < 1000 → f (m + 466 + i) v = 0) → ∃ f', F_X10_count_37 N fu m w B1 L1 (Int32.ofNat j) (axM Z f) = F_X10_count_81 N N m w B1 L1 0 (axM Z f') ∧ aliM f' m (fun _ _ => 0) ∧ ∀ x, (x < m + 466 ∨ m + 525 < x) → f' x = f x := by
  intro n
  induction n with
  | zero =>
    intro j fu f hj hfu hz
    obtain ⟨fu, rfl⟩ : ∃ q, fu = q + 1 := ⟨fu - 1, by omega⟩
    show ∃ f', F_X10_count_37b N (F_X10_count_37 N fu) m w B1 L1 (Int32.ofNat j) (axM Z f) = _ ∧ _
    unfold F_X10_count_37b
    rw [if_pos (show (60 : Int32) ≤ Int32.ofNat j from qi_ge (i := 60) (by omega) (by omega))]
    exact ⟨f, rfl, fun i hi => hz i (by omega), fun _ _ => rfl⟩
  | succ n ih =>
    intro j fu f hj hfu hz
    obtain ⟨fu, rfl⟩ : ∃ q, fu = q + 1 := ⟨fu - 1, by omega⟩
    show ∃ f', F_X10_count_37b N (F_X10_count_37 N fu) m w B1 L1 (Int32.ofNat j) (axM Z f) = _ ∧ _
    unfold F_X10_count_37b
    obtain ⟨f1, e1, g1, fr1⟩ := qm_count47 (N := N) hm (show j < 60 by omega) (F_X10_count_37 N fu) w B1 L1 1000 0 N f (by omega) (by omega)
    rw [if_neg (show ¬ (60 : Int32) ≤ Int32.ofNat j from qi_nge (i := 60) (by omega) (by omega)), show F_X10_count_47 N (F_X10_count_37 N fu) N m w B1 L1 (Int32.ofNat j) 0 (axM Z f) = _ from e1]
    obtain ⟨f2, e2, g2, fr2⟩ := ih (j + 1) fu f1 (by omega) (by omega) (fun i hi v hv => by
      by_cases c : i = j
      · rw [c, g1 v hv, if_pos (by omega)]
      · rw [fr1 _ (by omega)]
        exact hz i (by omega) v hv)
    exact ⟨f2, e2, g2, fun x hx => by rw [fr2 x hx, fr1 x (by omega)]⟩
theorem qm_count110 (hN : 200 < N) {β : QR} {nl o rt : Nat} (K : Nat → Int32 → Int32 → Int32 → Int32 → Int32 → AxS → Option (Int32 × AxS)) (w B1 L1 v4 v5 : Int32) : ∀ (n i fu : Nat) (f : Nat → Nat → Int32) (A : QF), i + n = 60 → n < fu → HM Z m f ψ l r → mlB f m β nl → (∀ j, j < 60 → f (m + 464) j = q_fs ψ l (Int32.ofNat o) (Int32.ofNat rt) j) → (q_right β (q_fs ψ l (Int32.ofNat o) (Int32.ofNat rt)) = true → ∀ j, j < 60 → ∀ v, v < 1000 → f (m + 466 + j) v = if j < i ∧ v = q_fn ψ l o rt j then A j v + 1 else A j v) → (¬ q_right β (q_fs ψ l (Int32.ofNat o) (Int32.ofNat rt)) = true → aliM f m A) → ∃ f', F_X10_count_110 N K fu m w B1 L1 v4 v5 (Int32.ofNat i) (axM Z f) = K m w B1 L1 v4 (v5 + 1) (axM Z f') ∧ aliM f' m (if q_right β (q_fs ψ l (Int32.ofNat o) (Int32.ofNat rt)) = true then q_fA1 A (q_fn ψ l o rt) else A) ∧ ∀ x, ¬ scA m x → f' x = f x := by
  intro n
  induction n with
  | zero =>
    intro i fu f A hi hfu h hB hs hA hA2
    obtain ⟨fu, rfl⟩ : ∃ q, fu = q + 1 := ⟨fu - 1, by omega⟩
    show ∃ f', F_X10_count_110b N K (F_X10_count_110 N K fu) m w B1 L1 v4 v5 (Int32.ofNat i) (axM Z f) = _ ∧ _
    unfold F_X10_count_110b F_X10_count_149
    rw [if_pos (show (60 : Int32) ≤ Int32.ofNat i from qi_ge (i := 60) (by omega) (by omega))]
    refine ⟨f, rfl, ?_, fun _ _ => rfl⟩
    by_cases c : q_right β (q_fs ψ l (Int32.ofNat o) (Int32.ofNat rt)) = true
    · rw [if_pos c]
      intro j hj v hv
      rw [hA c j hj v hv]
      unfold q_fA1
      by_cases c2 : v = q_fn ψ l o rt j
      · rw [if_pos c2, if_pos ⟨by omega, c2⟩]
      · rw [if_neg c2, if_neg (fun z => c2 z.2)]
    · rw [if_neg c]
      exact hA2 c
  | succ n ih =>
    intro i fu f A hi hfu h hB hs hA hA2
    obtain ⟨fu, rfl⟩ : ∃ q, fu = q + 1 := ⟨fu - 1, by omega⟩
    show ∃ f', F_X10_count_110b N K (F_X10_count_110 N K fu) m w B1 L1 v4 v5 (Int32.ofNat i) (axM Z f) = _ ∧ _
    have hm := h.1
    have h0 := hm.1
    unfold F_X10_count_110b F_X10_count_149
    rw [if_neg (show ¬ (60 : Int32) ≤ Int32.ofNat i from qi_nge (i := 60) (by omega) (by omega)), m_is h0, qm_struck hN h hB hs, axB_s]
    by_cases c : q_right β (q_fs ψ l (Int32.ofNat o) (Int32.ofNat rt)) = true
    · obtain ⟨a1, a2, a3⟩ := hm.ali
      obtain ⟨a4, a5⟩ := a3 i (by omega)
      have p39 : axP Z m 39 = some (m + 464) := hm.2.1 39 464 rfl
      have s464 : axL Z (m + 464) = some (1, 60) := hm.2.2.1 464 _ rfl
      obtain ⟨n9, en⟩ := q_fn_n ψ l o rt i
      have hAi := hA c i (by omega) (q_fn ψ l o rt i) (by omega)
      rw [if_neg (by omega)] at hAi
      simp only [if_pos c] at ih ⊢
      rw [if_neg (show ¬ (1 : Int32) = 0 by decide), m_gr h0 a1, m_ldrn a2 (by omega) (show i < 60 by omega) (by omega) a4, m_gr h0 p39, m_ldn s464 (show i < 60 by omega) (by omega), hs i (by omega), en, m_ldn a5 (show q_fn ψ l o rt i < 1000 by omega) (by omega), m_stn a5 (show q_fn ψ l o rt i < 1000 by omega) (by omega), hAi, qi_s]
      have F1 : ∀ x, ¬ scA m x → ax2 f (m + 466 + i) (q_fn ψ l o rt i) (A i (q_fn ψ l o rt i) + 1) x = f x := fun x hx => ax2_n _ _ _ _ (by unfold scA at hx; omega)
      obtain ⟨f2, e2, g2, fr2⟩ := ih (i + 1) fu (ax2 f (m + 466 + i) (q_fn ψ l o rt i) (A i (q_fn ψ l o rt i) + 1)) A (by omega) (by omega) (h.sa F1) (hB.sa F1) (fun j hj => by rw [ax2_n _ _ _ _ (by omega)]; exact hs j hj) (fun _ j hj v hv => by
        by_cases cj : j = i
        · subst cj
          rw [ax2_a]
          by_cases c2 : v = q_fn ψ l o rt j
          · rw [if_pos c2, if_pos ⟨by omega, c2⟩, c2]
          · rw [if_neg c2, if_neg (fun z => c2 z.2), hA c j hj v hv, if_neg (by omega)]
        · rw [ax2_n _ _ _ _ (by omega), hA c j hj v hv]
          by_cases c2 : j < i ∧ v = q_fn ψ l o rt j
          · rw [if_pos c2, if_pos (by omega)]
          · rw [if_neg c2, if_neg (by omega)]) (fun z => absurd c z)
      exact ⟨f2, e2, g2, fun x hx => by rw [fr2 x hx, F1 x hx]⟩
    · simp only [if_neg c]
      rw [if_pos trivial]
      exact ⟨f, rfl, hA2 c, fun _ _ => rfl⟩
theorem qm_count92 (hN : 2000 < N) {β : QR} {nl o : Nat} (K : Nat → Int32 → Int32 → Int32 → Int32 → AxS → Option (Int32 × AxS)) (w B1 L1 : Int32) : ∀ (n rt fu : Nat) (f : Nat → Nat → Int32) (st : QX × QF × Bool), rt + n = 21 → n < fu → HM Z m f ψ l r → mlB f m β nl → aliM f m st.2.1 → ∃ f', F_X10_count_92 N K fu m w B1 L1 (Int32.ofNat o) (Int32.ofNat rt) (axM Z f) = K m w B1 L1 (Int32.ofNat o + 1) (axM Z f') ∧ aliM f' m (q_fi (q_fR ψ l β) (q_fn ψ l) o n rt st).2.1 ∧ ∀ x, ¬ scA m x → f' x = f x := by
  intro n
  induction n with
  | zero =>
    intro rt fu f st hr hfu h hB hA
    obtain ⟨fu, rfl⟩ : ∃ q, fu = q + 1 := ⟨fu - 1, by omega⟩
    show ∃ f', F_X10_count_92b N K (F_X10_count_92 N K fu) m w B1 L1 (Int32.ofNat o) (Int32.ofNat rt) (axM Z f) = _ ∧ _
    unfold F_X10_count_92b
    rw [if_pos (show (21 : Int32) ≤ Int32.ofNat rt from qi_ge (i := 21) (by omega) (by omega))]
    exact ⟨f, rfl, hA, fun _ _ => rfl⟩
  | succ n ih =>
    intro rt fu f st hr hfu h hB hA
    obtain ⟨fu, rfl⟩ : ∃ q, fu = q + 1 := ⟨fu - 1, by omega⟩
    show ∃ f', F_X10_count_92b N K (F_X10_count_92 N K fu) m w B1 L1 (Int32.ofNat o) (Int32.ofNat rt) (axM Z f) = _ ∧ _
    have h0 := h.1.1
    obtain ⟨f1, e1, s1, fr1⟩ := qm_strikes (N := N) (by omega) h (Int32.ofNat o) (Int32.ofNat rt)
    have A1 : aliM f1 m st.2.1 := fun i hi v hv => by rw [fr1 _ (by unfold scS; omega)]; exact hA i hi v hv
    obtain ⟨f2, e2, A2, fr2⟩ := qm_count110 (N := N) (o := o) (rt := rt) (by omega) (F_X10_count_92 N K fu) w B1 L1 (Int32.ofNat o) (Int32.ofNat rt) 60 0 N f1 st.2.1 (by omega) (by omega) (h.ss fr1) (hB.ss fr1) s1 (fun _ j hj v hv => by rw [if_neg (by omega)]; exact A1 j hj v hv) (fun _ => A1)
    have F2 : ∀ x, ¬ scA m x → f2 x = f x := fun x hx => by rw [fr2 x hx, fr1 x (fun z => hx (Or.inl z))]
    unfold F_X10_count_92b
    rw [if_neg (show ¬ (21 : Int32) ≤ Int32.ofNat rt from qi_nge (i := 21) (by omega) (by omega)), m_is h0, e1, axBV_s, show F_X10_count_110 N (F_X10_count_92 N K fu) N m w B1 L1 (Int32.ofNat o) (Int32.ofNat rt) 0 (axM Z f1) = _ from e2, qi_s]
    obtain ⟨f3, e3, A3, fr3⟩ := ih (rt + 1) fu f2 (if q_fR ψ l β o rt = true then (q_fX1 st.1 (Int32.ofNat o) (Int32.ofNat rt), q_fA1 st.2.1 (q_fn ψ l o rt), true) else st) (by omega) (by omega) (h.sa F2) (hB.sa F2) (by
      by_cases c : q_fR ψ l β o rt = true
      · rw [if_pos c]
        have c' : q_right β (q_fs ψ l (Int32.ofNat o) (Int32.ofNat rt)) = true := c
        rw [if_pos c'] at A2
        exact A2
      · rw [if_neg c]
        have c' : ¬ q_right β (q_fs ψ l (Int32.ofNat o) (Int32.ofNat rt)) = true := c
        rw [if_neg c'] at A2
        exact A2)
    exact ⟨f3, e3, A3, fun x hx => by rw [fr3 x hx, F2 x hx]⟩
theorem qm_isCounted (hN : 200 < N) (h : HM Z m f ψ l r) {β : QR} {nl i : Nat} (hB : mlB f m β nl) (hi : i < 60) : F_X10_isCounted N m (Int32.ofNat i) (axM Z f) = some (if β i = -1 then 0 else 1, axM Z f) := by
  have hm := h.1
  have h0 := hm.1
  have p21 : axP Z m 21 = some (m + 339) := hm.2.1 21 339 rfl
  have s339 : axL Z (m + 339) = some (0 + 3, 8) := hm.2.2.1 339 _ rfl
  obtain ⟨h1, h2, I, h3, h4⟩ := hB
  have loop : ∀ (n k fu : Nat), k + n = nl → n < fu → (∀ j, j < k → I j ≠ i) → F_X10_isCounted_2 N fu m (Int32.ofNat i) (Int32.ofNat k) (axM Z f) = some (if β i = -1 then 0 else 1, axM Z f) := by
    intro n
    induction n with
    | zero =>
      intro k fu hk hfu hj
      obtain ⟨fu, rfl⟩ : ∃ q, fu = q + 1 := ⟨fu - 1, by omega⟩
      show F_X10_isCounted_2b N (F_X10_isCounted_2 N fu) m (Int32.ofNat i) (Int32.ofNat k) (axM Z f) = _
      unfold F_X10_isCounted_2b
      rw [m_gi h0, h1, if_pos (qi_ge (by omega) (by omega)), m_rz0]
      by_cases c : β i = -1
      · rw [if_pos c]
      · obtain ⟨k2, hk2, ek⟩ := h4 i hi c
        exact absurd ek (hj k2 (by omega))
    | succ n ih =>
      intro k fu hk hfu hj
      obtain ⟨fu, rfl⟩ : ∃ q, fu = q + 1 := ⟨fu - 1, by omega⟩
      show F_X10_isCounted_2b N (F_X10_isCounted_2 N fu) m (Int32.ofNat i) (Int32.ofNat k) (axM Z f) = _
      unfold F_X10_isCounted_2b
      obtain ⟨i1, i2, i3, i4⟩ := h3 k (by omega)
      obtain ⟨q1, q2⟩ := hm.2.2.2 339 8 2 rfl k (by omega)
      rw [m_gi h0, h1, if_neg (qi_nge (by omega) (by omega)), m_gr h0 p21, m_ldrn s339 (by omega) (show k < 8 by omega) (by omega) q1, m_ldk_0 q2 (by omega), show f (m + (339 + 1) + k) 0 = _ from i2, qi_s]
      by_cases c : I k = i
      · rw [if_pos (by rw [c]), m_rz1, if_neg (by rw [← c]; exact i4)]
      · rw [if_neg (qi_ne c (by omega) (by omega))]
        exact ih (k + 1) fu (by omega) (by omega) (fun j hj2 => by
          by_cases e : j = k
          · rw [e]; exact c
          · exact hj j (by omega))
  unfold F_X10_isCounted
  exact loop nl 0 N (by omega) (by omega) (fun j hj => absurd hj (by omega))
theorem qm_count177 (hN : 200 < N) (h : HM Z m f ψ l r) {β : QR} {A : QF} {nl i : Nat} (hB : mlB f m β nl) (hi : i < 60) (hA : aliM f m A) (K : Nat → Int32 → Int32 → Int32 → Int32 → AxS → Option (Int32 × AxS)) (w : Int32) (z : Int32 × Int32) : ∀ (n v fu : Nat) (x : Int32), v + n = 1000 → n < fu → F_X10_count_177 N K fu m w z.1 z.2 (Int32.ofNat i) x (Int32.ofNat v) (axM Z f) = K m w (if β i = -1 then (if z.1 = -1 then (Int32.ofNat i, q_mxA A i n v x) else if z.2 ≤ q_mxA A i n v x then z else (Int32.ofNat i, q_mxA A i n v x)) else z).1 (if β i = -1 then (if z.1 = -1 then (Int32.ofNat i, q_mxA A i n v x) else if z.2 ≤ q_mxA A i n v x then z else (Int32.ofNat i, q_mxA A i n v x)) else z).2 (Int32.ofNat (i + 1)) (axM Z f) := by
  have hm := h.1
  have h0 := hm.1
  obtain ⟨a1, a2, a3⟩ := hm.ali
  obtain ⟨a4, a5⟩ := a3 i hi
  intro n
  induction n with
  | zero =>
    intro v fu x hv hfu
    obtain ⟨fu, rfl⟩ : ∃ q, fu = q + 1 := ⟨fu - 1, by omega⟩
    show F_X10_count_177b N K (F_X10_count_177 N K fu) m w z.1 z.2 (Int32.ofNat i) x (Int32.ofNat v) (axM Z f) = K m w (if β i = -1 then (if z.1 = -1 then (Int32.ofNat i, x) else if z.2 ≤ x then z else (Int32.ofNat i, x)) else z).1 (if β i = -1 then (if z.1 = -1 then (Int32.ofNat i, x) else if z.2 ≤ x then z else (Int32.ofNat i, x)) else z).2 (Int32.ofNat (i + 1)) (axM Z f)
    unfold F_X10_count_177b F_X10_count_231 F_X10_count_237
    rw [if_pos (show (999 : Int32) < Int32.ofNat v from qi_gt (i := 999) (by omega) (by omega)), m_is h0, qm_isCounted hN h hB hi, axB_s, qi_s]
    by_cases c1 : β i = -1
    · simp only [if_pos c1]
      rw [if_pos trivial]
      by_cases c2 : z.1 = -1
      · simp only [if_pos c2]
      · simp only [if_neg c2]
        by_cases c3 : z.2 ≤ x
        · rw [if_neg (Int32.not_lt.mpr c3)]
          simp only [if_pos c3]
        · rw [if_pos (Int32.not_le.mp c3)]
          simp only [if_neg c3]
    · simp only [if_neg c1]
      rw [if_neg (show ¬ (1 : Int32) = 0 by decide)]
  | succ n ih =>
    intro v fu x hv hfu
    obtain ⟨fu, rfl⟩ : ∃ q, fu = q + 1 := ⟨fu - 1, by omega⟩
    show F_X10_count_177b N K (F_X10_count_177 N K fu) m w z.1 z.2 (Int32.ofNat i) x (Int32.ofNat v) (axM Z f) = _
    unfold F_X10_count_177b
    rw [if_neg (show ¬ (999 : Int32) < Int32.ofNat v from qi_ngt (i := 999) (by omega) (by omega)), m_gr h0 a1, m_ldrn a2 (by omega) hi (by omega) a4, m_ldn a5 (show v < 1000 by omega) (by omega), hA i hi v (by omega), m_more, axB_s, qi_s]
    exact ih (v + 1) fu _ (by omega) (by omega)
theorem qm_count164 (hN : 2000 < N) {β : QR} {A : QF} {nl : Nat} (w : Int32) (h : HM Z m f ψ l r) (hB : mlB f m β nl) (hA : aliM f m A) : ∀ (n i fu : Nat) (z : Int32 × Int32), i + n = 60 → n < fu → F_X10_count_164 N fu m w z.1 z.2 (Int32.ofNat i) (axM Z f) = some (if w = 0 then (q_chs β A n i z).1 else (q_chs β A n i z).2, axM Z f) := by
  intro n
  induction n with
  | zero =>
    intro i fu z hi hfu
    obtain ⟨fu, rfl⟩ : ∃ q, fu = q + 1 := ⟨fu - 1, by omega⟩
    show F_X10_count_164b N (F_X10_count_164 N fu) m w z.1 z.2 (Int32.ofNat i) (axM Z f) = some (if w = 0 then z.1 else z.2, axM Z f)
    unfold F_X10_count_164b
    rw [if_pos (show (60 : Int32) ≤ Int32.ofNat i from qi_ge (i := 60) (by omega) (by omega))]
    by_cases c : w = 0
    · rw [if_pos c, if_pos c]
    · rw [if_neg c, if_neg c]
  | succ n ih =>
    intro i fu z hi hfu
    obtain ⟨fu, rfl⟩ : ∃ q, fu = q + 1 := ⟨fu - 1, by omega⟩
    show F_X10_count_164b N (F_X10_count_164 N fu) m w z.1 z.2 (Int32.ofNat i) (axM Z f) = _
    unfold F_X10_count_164b
    have e := qm_count177 (N := N) (A := A) (by omega) h hB (show i < 60 by omega) hA (F_X10_count_164 N fu) w z 1000 0 N 0 (by omega) (by omega)
    rw [if_neg (show ¬ (60 : Int32) ≤ Int32.ofNat i from qi_nge (i := 60) (by omega) (by omega)), show F_X10_count_177 N (F_X10_count_164 N fu) N m w z.1 z.2 (Int32.ofNat i) 0 0 (axM Z f) = _ from e]
    exact ih (i + 1) fu _ (by omega) (by omega)
theorem qm_count81 (hN : 2000 < N) {β : QR} {nl : Nat} (w : Int32) : ∀ (n o fu : Nat) (f : Nat → Nat → Int32) (st : QX × QF × Int32), o + n = 200 → n < fu → HM Z m f ψ l r → mlB f m β nl → aliM f m st.2.1 → ∃ f', F_X10_count_81 N fu m w (-1) (-1) (Int32.ofNat o) (axM Z f) = some (if w = 0 then (q_chs β (q_fo (q_fR ψ l β) (q_fn ψ l) n o st).2.1 60 0 (-1, -1)).1 else (q_chs β (q_fo (q_fR ψ l β) (q_fn ψ l) n o st).2.1 60 0 (-1, -1)).2, axM Z f') ∧ ∀ x, ¬ scA m x → f' x = f x := by
  intro n
  induction n with
  | zero =>
    intro o fu f st ho hfu h hB hA
    obtain ⟨fu, rfl⟩ : ∃ q, fu = q + 1 := ⟨fu - 1, by omega⟩
    show ∃ f', F_X10_count_81b N (F_X10_count_81 N fu) m w (-1) (-1) (Int32.ofNat o) (axM Z f) = _ ∧ _
    unfold F_X10_count_81b
    rw [if_pos (show (200 : Int32) ≤ Int32.ofNat o from qi_ge (i := 200) (by omega) (by omega))]
    exact ⟨f, qm_count164 hN w h hB hA 60 0 N (-1, -1) (by omega) (by omega), fun _ _ => rfl⟩
  | succ n ih =>
    intro o fu f st ho hfu h hB hA
    obtain ⟨fu, rfl⟩ : ∃ q, fu = q + 1 := ⟨fu - 1, by omega⟩
    show ∃ f', F_X10_count_81b N (F_X10_count_81 N fu) m w (-1) (-1) (Int32.ofNat o) (axM Z f) = _ ∧ _
    obtain ⟨f1, e1, A1, fr1⟩ := qm_count92 (N := N) (o := o) hN (F_X10_count_81 N fu) w (-1) (-1) 21 0 N f (st.1, st.2.1, false) (by omega) (by omega) h hB hA
    unfold F_X10_count_81b
    rw [if_neg (show ¬ (200 : Int32) ≤ Int32.ofNat o from qi_nge (i := 200) (by omega) (by omega)), show F_X10_count_92 N (F_X10_count_81 N fu) N m w (-1) (-1) (Int32.ofNat o) 0 (axM Z f) = _ from e1, qi_s]
    obtain ⟨f2, e2, fr2⟩ := ih (o + 1) fu f1 ((q_fi (q_fR ψ l β) (q_fn ψ l) o 21 0 (st.1, st.2.1, false)).1, (q_fi (q_fR ψ l β) (q_fn ψ l) o 21 0 (st.1, st.2.1, false)).2.1, if (q_fi (q_fR ψ l β) (q_fn ψ l) o 21 0 (st.1, st.2.1, false)).2.2 = true then st.2.2 + 1 else st.2.2) (by omega) (by omega) (h.sa fr1) (hB.sa fr1) A1
    exact ⟨f2, e2, fun x hx => by rw [fr2 x hx, fr1 x hx]⟩
theorem qm_count (hN : 2000 < N) (h : HM Z m f ψ l r) {β : QR} {nl : Nat} (hB : mlB f m β nl) (w : Int32) : ((0 ≤ w ∧ w ≤ 1) → MQz Z m f (F_X10_count N m w (axM Z f)) (if w = 0 then (q_fch ψ l β).1 else (q_fch ψ l β).2)) ∧ (¬ (0 ≤ w ∧ w ≤ 1) → MTz Z m f (F_X10_count N m w (axM Z f)) 1 1) := by
  have h' := h.t0
  have h0 := h.1.1
  unfold F_X10_count F_X10_count_20
  rw [m_pi h0, m_in, axB_s]
  refine ⟨fun c => ?_, fun c => ?_⟩
  · obtain ⟨f1, e1, A1, fr1⟩ := qm_count37 (N := N) hN h.1 w (-1) (-1) 60 0 N (ax2 f m 0 0) (by omega) (by omega) (fun i hi => absurd hi (by omega))
    have F1 : ∀ x, ¬ scA m x → f1 x = ax2 f m 0 0 x := fun x hx => fr1 x (by unfold scA at hx; omega)
    obtain ⟨f2, e2, fr2⟩ := qm_count81 (N := N) hN w 200 0 N f1 ((0, -1, -1), fun _ _ => 0, 0) (by omega) (by omega) (h'.sa F1) (hB.t0.sa F1) A1
    rw [if_pos c, if_neg (by decide), m_is h0, qm_badF N h0, show F_X10_count_37 N N m w (-1) (-1) 0 (axM Z (ax2 f m 0 0)) = _ from e1, show F_X10_count_81 N N m w (-1) (-1) 0 (axM Z f1) = _ from e2]
    exact MQz.mkk f2 rfl (KM.sc (fun x hx => by rw [fr2 x (scA_M hx), F1 x (scA_M hx)]))
  · rw [if_neg c, if_pos rfl, m_is h0]
    exact qm_badT1 N h.1 _ _
end
