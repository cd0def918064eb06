/-! how steps lie: in their order -/
theorem QW.le {L : List QE} {lo hi op : Nat} (h : QW L lo hi op) : lo ≤ hi ∧ (lo ≤ L.length → hi ≤ L.length) := QW.ind (P := fun lo hi _ => lo ≤ hi ∧ (lo ≤ L.length → hi ≤ L.length)) (fun lo _ => ⟨Nat.le_refl _, id⟩) (fun lo hi op q a _ _ _ ih => by
    have := (List.getElem?_eq_some_iff.mp a).1
    exact ⟨by omega, fun _ => ih.2 (by omega)⟩) (fun lo hi op e q a _ _ _ _ _ _ ih1 ih2 => by
    have := (List.getElem?_eq_some_iff.mp a).1
    have := ih1.1
    have := ih1.2 (by omega)
    exact ⟨by have := ih2.1; omega, fun _ => ih2.2 (by omega)⟩) h
theorem QW.depth {L : List QE} {lo hi op : Nat} (h : QW L lo hi op) (ho : op ≤ 6) : op ≤ 6 := ho
/-- steps that tell nothing of the row's end are known by their kind -/
theorem SCl.row {f : Nat → Nat → Int32} {a i : Nat} {L : List QE} {q : QE} (h : SCl f a L) (e : L[i]? = some q) : f (a + 1) i = Int32.ofNat (q.1 + 1) ∧ (q.1 ≠ 2 → q.1 ≠ 5 → f (a + 2) i = Int32.ofNat q.2.1) ∧ (q.1 = 4 → f (a + 3) i = Int32.ofNat q.2.2.1) := ⟨(h.2 i q e).1, (h.2 i q e).2.1, (h.2 i q e).2.2.1⟩
section
variable {Z : AxS} {st N i : Nat} {f : Nat → Nat → Int32} {L : List QE} {q : QE} {e : Nat}
/-- where the step behind begins -/
theorem qc_behind (hS : LSp Z st) (h : SCl f st L) (hi : i < 150) (hq : L[i]? = some q) (h7 : q.1 < 7) (he : q.2.2.2 = some e) (hs : q.1 < 6 → e = i + 1) : F_X6_behind N st (Int32.ofNat i) (axM Z f) = some (Int32.ofNat e, axM Z f) := by
  obtain ⟨hs0, ⟨p0, s0⟩, ⟨p1, s1⟩, p2, s2⟩ := hS
  obtain ⟨h1, -, -, h4⟩ := h.2 i q hq
  unfold F_X6_behind
  rw [m_gr hs0 p0, m_atn N s0 hi (by omega), axB_s, h1]
  by_cases c : q.1 = 6
  · rw [if_pos (show Int32.ofNat (q.1 + 1) = 7 by rw [c]; rfl), m_gr hs0 p2, m_atn N s2 hi (by omega), axB_s, h4 c e he]
  · rw [if_neg (show ¬ Int32.ofNat (q.1 + 1) = 7 from qi_ne (j := 7) (by omega) (by omega) (by omega)), qi_s, hs (by omega)]
end
