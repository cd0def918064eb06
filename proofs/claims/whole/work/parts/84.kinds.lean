/-! texts: the kinds of clauses -/
theorem q_isw_x {t : QR} {s e : Nat} {cs ds : List Nat} (hc : cs.length ≠ ds.length ∨ ∃ j, j < cs.length ∧ Int32.ofNat (96 + q_cs cs j) ≠ Int32.ofNat (96 + q_cs ds j)) (h : q_isw t s e cs = true) : q_isw t s e ds = false := by
  by_cases c : q_isw t s e ds = true
  · rw [q_isw_iff] at h c
    rcases hc with hc | ⟨j, hj, hc⟩
    · exact absurd (h.1.symm.trans c.1) hc
    · exact absurd ((h.2 j hj).symm.trans (c.2 j (by have := h.1.symm.trans c.1; omega))) hc
  · exact eq_false_of_ne_true c
def q_W (i : Nat) : List Nat := match i with
  | 0 => q_owe
  | 1 => q_rate
  | 2 => q_chest
  | 3 => q_harvest
  | 4 => q_villa
  | 5 => q_cellw
  | 6 => q_monkw
  | 7 => q_heirw
  | _ => []
theorem q_W_x : ∀ i, i < 8 → ∀ j, j < 8 → i ≠ j → (q_W i).length ≠ (q_W j).length ∨ ∃ k, k < (q_W i).length ∧ Int32.ofNat (96 + q_cs (q_W i) k) ≠ Int32.ofNat (96 + q_cs (q_W j) k) := by
  decide +kernel
theorem q_W_let : ∀ i, i < 8 → q_let (q_W i) := by
  unfold q_let
  decide +kernel
theorem q_W_txt : ∀ i, i < 8 → q_txt (i + 1) (q_W i) := by
  unfold q_txt
  decide +kernel
theorem q_W_c (t : QR) (s e : Nat) : (∃ i, i < 8 ∧ q_isw t s e (q_W i) = true ∧ ∀ j, j < 8 → j ≠ i → q_isw t s e (q_W j) = false) ∨ ∀ j, j < 8 → q_isw t s e (q_W j) = false := by
  by_cases c : ∃ i, i < 8 ∧ q_isw t s e (q_W i) = true
  · obtain ⟨i, hi, h⟩ := c
    exact Or.inl ⟨i, hi, h, fun j hj hij => q_isw_x (q_W_x i hi j hj (Ne.symm hij)) h⟩
  · exact Or.inr fun j hj => eq_false_of_ne_true fun h => c ⟨j, hj, h⟩
section
variable {Z : AxS} {u m N n s e : Nat} {f : Nat → Nat → Int32} {t : QR} {k pl : Int32}
def q_ck (t : QR) (s e : Nat) : Int32 := if q_isw t s e (q_W 0) = true then 1 else if q_isw t s e (q_W 1) = true then 2 else if q_isw t s e (q_W 2) = true then 3 else if q_isw t s e (q_W 3) = true then 4 else if q_isw t s e (q_W 4) = true then 5 else if q_isw t s e (q_W 5) = true then 6 else if q_isw t s e (q_W 6) = true then 7 else if q_isw t s e (q_W 7) = true then 8 else 0
def q_mk (t : QR) (s e : Nat) : Int32 := if q_isw t s e (q_W 4) = true then 0 else if q_isw t s e (q_W 5) = true then 1 else if q_isw t s e (q_W 6) = true then 2 else if q_isw t s e (q_W 7) = true then 3 else if q_isw t s e (q_W 0) = true then 4 else if q_isw t s e (q_W 1) = true then 5 else if q_isw t s e (q_W 2) = true then 6 else if q_isw t s e (q_W 3) = true then 7 else -1
theorem qc_kind (hN : 2000 < N) (hu : LTa Z u) (hT : TXz Z) (h : CT f u t n e k pl) (h6 : f u 6 = Int32.ofNat s) (hs : s ≤ e) : F_X1_clauseKind N u (axM Z f) = some (q_ck t s e, axM Z f) := by
  have h0 := hu.1
  have hw := fun i (hi : i < 8) => qc_isWord hN hu hT (q_W_txt i hi) h h6 hs
  unfold F_X1_clauseKind q_ck
  rw [m_is h0, axM_Tx, hw 0 (by omega), axB_s]
  by_cases c0 : q_isw t s e (q_W 0) = true
  · simp only [if_pos c0]
    rw [if_neg (show ¬ (1 : Int32) = 0 by decide)]
  simp only [if_neg c0]
  rw [if_pos trivial]
  rw [m_is h0, axM_Tx, hw 1 (by omega), axB_s]
  by_cases c1 : q_isw t s e (q_W 1) = true
  · simp only [if_pos c1]
    rw [if_neg (show ¬ (1 : Int32) = 0 by decide)]
  simp only [if_neg c1]
  rw [if_pos trivial]
  rw [m_is h0, axM_Tx, hw 2 (by omega), axB_s]
  by_cases c2 : q_isw t s e (q_W 2) = true
  · simp only [if_pos c2]
    rw [if_neg (show ¬ (1 : Int32) = 0 by decide)]
  simp only [if_neg c2]
  rw [if_pos trivial]
  rw [m_is h0, axM_Tx, hw 3 (by omega), axB_s]
  by_cases c3 : q_isw t s e (q_W 3) = true
  · simp only [if_pos c3]
    rw [if_neg (show ¬ (1 : Int32) = 0 by decide)]
  simp only [if_neg c3]
  rw [if_pos trivial]
  rw [m_is h0, axM_Tx, hw 4 (by omega), axB_s]
  by_cases c4 : q_isw t s e (q_W 4) = true
  · simp only [if_pos c4]
    rw [if_neg (show ¬ (1 : Int32) = 0 by decide)]
  simp only [if_neg c4]
  rw [if_pos trivial]
  rw [m_is h0, axM_Tx, hw 5 (by omega), axB_s]
  by_cases c5 : q_isw t s e (q_W 5) = true
  · simp only [if_pos c5]
    rw [if_neg (show ¬ (1 : Int32) = 0 by decide)]
  simp only [if_neg c5]
  rw [if_pos trivial]
  rw [m_is h0, axM_Tx, hw 6 (by omega), axB_s]
  by_cases c6 : q_isw t s e (q_W 6) = true
  · simp only [if_pos c6]
    rw [if_neg (show ¬ (1 : Int32) = 0 by decide)]
  simp only [if_neg c6]
  rw [if_pos trivial]
  rw [m_is h0, axM_Tx, hw 7 (by omega), axB_s]
  by_cases c7 : q_isw t s e (q_W 7) = true
  · simp only [if_pos c7]
    rw [if_neg (show ¬ (1 : Int32) = 0 by decide)]
  simp only [if_neg c7]
  rw [if_pos trivial]
theorem qm_kind (hN : 2000 < N) (hm : LMo Z m) (h : MT f m t n s 0 pl) (hs : q_bl t n s = s) : ∃ f', F_X10_kindHere N m (axM Z f) = some (q_mk t s (q_wrl t n s), axM Z f') ∧ MT f' m t n s 0 pl ∧ MFr f f' m := by
  have hx := hm.1
  have hw := fun (f : Nat → Nat → Int32) (h : MT f m t n s 0 pl) i (hi : i < 8) (a1 a2 a3 a4 a5 a6 a7 : Int32) (hcs : ∀ S, F_X10_seven N a1 a2 a3 a4 a5 a6 a7 S = some (Int64.ofNat (q_E (q_cs (q_W i)) (q_W i).length), S)) => qm_isWord hN hm h hcs (q_W_let i hi)
  rw [hs] at hw
  unfold F_X10_kindHere q_mk
  obtain ⟨f4, e4, h4, fr4⟩ := hw f h 4 (by omega) 22 9 12 12 1 7 5 (fun _ => rfl)
  rw [m_is hx, e4, axB_s]
  replace fr4 := (MFr.rf _ _ : MFr f f m).tr fr4
  by_cases c4 : q_isw t s (q_wrl t n s) (q_W 4) = true
  · simp only [if_pos c4]
    rw [if_neg (show ¬ (1 : Int32) = 0 by decide)]
    exact ⟨f4, rfl, h4, fr4⟩
  simp only [if_neg c4]
  rw [if_pos trivial]
  obtain ⟨f5, e5, h5, fr5⟩ := hw f4 h4 5 (by omega) 3 5 12 12 0 0 0 (fun _ => rfl)
  rw [m_is hx, e5, axB_s]
  replace fr5 := (fr4 : MFr f f4 m).tr fr5
  by_cases c5 : q_isw t s (q_wrl t n s) (q_W 5) = true
  · simp only [if_pos c5]
    rw [if_neg (show ¬ (1 : Int32) = 0 by decide)]
    exact ⟨f5, rfl, h5, fr5⟩
  simp only [if_neg c5]
  rw [if_pos trivial]
  obtain ⟨f6, e6, h6, fr6⟩ := hw f5 h5 6 (by omega) 13 15 14 11 0 0 0 (fun _ => rfl)
  rw [m_is hx, e6, axB_s]
  replace fr6 := (fr5 : MFr f f5 m).tr fr6
  by_cases c6 : q_isw t s (q_wrl t n s) (q_W 6) = true
  · simp only [if_pos c6]
    rw [if_neg (show ¬ (1 : Int32) = 0 by decide)]
    exact ⟨f6, rfl, h6, fr6⟩
  simp only [if_neg c6]
  rw [if_pos trivial]
  obtain ⟨f7, e7, h7, fr7⟩ := hw f6 h6 7 (by omega) 8 5 9 18 0 0 0 (fun _ => rfl)
  rw [m_is hx, e7, axB_s]
  replace fr7 := (fr6 : MFr f f6 m).tr fr7
  by_cases c7 : q_isw t s (q_wrl t n s) (q_W 7) = true
  · simp only [if_pos c7]
    rw [if_neg (show ¬ (1 : Int32) = 0 by decide)]
    exact ⟨f7, rfl, h7, fr7⟩
  simp only [if_neg c7]
  rw [if_pos trivial]
  obtain ⟨f0, e0, h0, fr0⟩ := hw f7 h7 0 (by omega) 15 23 5 0 0 0 0 (fun _ => rfl)
  rw [m_is hx, e0, axB_s]
  replace fr0 := (fr7 : MFr f f7 m).tr fr0
  by_cases c0 : q_isw t s (q_wrl t n s) (q_W 0) = true
  · simp only [if_pos c0]
    rw [if_neg (show ¬ (1 : Int32) = 0 by decide)]
    exact ⟨f0, rfl, h0, fr0⟩
  simp only [if_neg c0]
  rw [if_pos trivial]
  obtain ⟨f1, e1, h1, fr1⟩ := hw f0 h0 1 (by omega) 18 1 20 5 0 0 0 (fun _ => rfl)
  rw [m_is hx, e1, axB_s]
  replace fr1 := (fr0 : MFr f f0 m).tr fr1
  by_cases c1 : q_isw t s (q_wrl t n s) (q_W 1) = true
  · simp only [if_pos c1]
    rw [if_neg (show ¬ (1 : Int32) = 0 by decide)]
    exact ⟨f1, rfl, h1, fr1⟩
  simp only [if_neg c1]
  rw [if_pos trivial]
  obtain ⟨f2, e2, h2, fr2⟩ := hw f1 h1 2 (by omega) 3 8 5 19 20 0 0 (fun _ => rfl)
  rw [m_is hx, e2, axB_s]
  replace fr2 := (fr1 : MFr f f1 m).tr fr2
  by_cases c2 : q_isw t s (q_wrl t n s) (q_W 2) = true
  · simp only [if_pos c2]
    rw [if_neg (show ¬ (1 : Int32) = 0 by decide)]
    exact ⟨f2, rfl, h2, fr2⟩
  simp only [if_neg c2]
  rw [if_pos trivial]
  obtain ⟨f3, e3, h3, fr3⟩ := hw f2 h2 3 (by omega) 8 1 18 22 5 19 20 (fun _ => rfl)
  rw [m_is hx, e3, axB_s]
  replace fr3 := (fr2 : MFr f f2 m).tr fr3
  by_cases c3 : q_isw t s (q_wrl t n s) (q_W 3) = true
  · simp only [if_pos c3]
    rw [if_neg (show ¬ (1 : Int32) = 0 by decide)]
    exact ⟨f3, rfl, h3, fr3⟩
  simp only [if_neg c3]
  rw [if_pos trivial]
  exact ⟨f3, rfl, h3, fr3⟩
end
