/-! the run of a work, on both sides -/
section
variable {ψ : QF} {l : QL} {L : List QE} {lo hi op : Nat} {σ : QS4}
theorem q_oks_sgl {q : QE} (hw : q_fw ψ) (h : q_oks ψ σ) (hv : q_evl ψ q) (h6 : q.1 < 6) (hb : σ.2.1 < 200) : q_oks ψ (q_sgl ψ l q σ) := by
  obtain ⟨a, b⟩ := q_dos_ok (l := l) hw h.1 h.2.1 hv h6
  exact ⟨a, b, by show σ.2.1 + 1 ≤ 200; omega⟩
theorem q_run_x (hw : q_fw ψ) (hL : L.length ≤ 75) (hv : ∀ q ∈ L, q_evl ψ q) (h : QW L lo hi op) : lo ≤ L.length → ∀ σ, q_oks ψ σ → ∃ τ, q_oks ψ τ ∧ RUc ψ l L lo hi op σ τ ∧ RUm ψ l L lo hi op σ τ := by
  have vl : ∀ {i q}, L[i]? = some q → q_evl ψ q := fun e => hv _ (List.mem_of_getElem? e)
  refine QW.ind (P := fun lo hi op => lo ≤ L.length → ∀ σ, q_oks ψ σ → ∃ τ, q_oks ψ τ ∧ RUc ψ l L lo hi op σ τ ∧ RUm ψ l L lo hi op σ τ) ?_ ?_ ?_ h
  · intro lo op hlo σ hσ
    exact ⟨σ, hσ, RUc.nil (by omega), RUm.nil (by omega)⟩
  · intro lo hi op q hq h6 he hW ih hlo σ hσ
    have hl := (List.getElem?_eq_some_iff.mp hq).1
    obtain ⟨w1, w2⟩ := hW.le
    have w3 := w2 (by omega)
    by_cases hb : 200 ≤ σ.2.1
    · exact ⟨σ, hσ, RUc.full (by omega) (by omega) hb hσ.2.2, RUm.full (by omega) (by omega) hb hσ.2.2⟩
    · obtain ⟨τ, t1, t2, t3⟩ := ih (by omega) (q_sgl ψ l q σ) (q_oks_sgl hw hσ (vl hq) h6 (by omega))
      exact ⟨τ, t1, RUc.one (by omega) hq h6 he (vl hq) (by omega) (by omega) (by omega) hσ.2.1 t2, RUm.one (by omega) hq h6 he (vl hq) (by omega) (by omega) (by omega) t3⟩
  · intro lo hi op e q hq h6 he ho h30 hW1 hW2 ih1 ih2 hlo σ hσ
    have hl := (List.getElem?_eq_some_iff.mp hq).1
    obtain ⟨w1, w2⟩ := hW1.le
    have w3 := w2 (by omega)
    obtain ⟨w4, w5⟩ := hW2.le
    have w6 := w5 w3
    by_cases hb : 200 ≤ σ.2.1
    · exact ⟨σ, hσ, RUc.full (by omega) (by omega) hb hσ.2.2, RUm.full (by omega) (by omega) hb hσ.2.2⟩
    · have loop : ∀ n k σ, k + n = q.2.1 → q_oks ψ σ → ∃ τ, q_oks ψ τ ∧ RPc ψ l L lo hi op q.2.1 k σ τ ∧ RPm ψ l L lo hi op q.2.1 k σ τ := by
        intro n
        induction n with
        | zero =>
          intro k σ hk hσ
          obtain ⟨τ, t1, t2, t3⟩ := ih2 w3 σ hσ
          exact ⟨τ, t1, RPc.last (by omega) hq h6 he (by omega) (by omega) hσ.2.2 h30 (by omega) (Or.inl (by omega)) t2, RPm.last (by omega) hq h6 he rfl h30 (by omega) (by omega) hσ.2.2 (by omega) (Or.inl (by omega)) t3⟩
        | succ n ihn =>
          intro k σ hk hσ
          by_cases hb : 200 ≤ σ.2.1
          · obtain ⟨τ, t1, t2, t3⟩ := ih2 w3 σ hσ
            exact ⟨τ, t1, RPc.last (by omega) hq h6 he (by omega) (by omega) hσ.2.2 h30 (by omega) (Or.inr hb) t2, RPm.last (by omega) hq h6 he rfl h30 (by omega) (by omega) hσ.2.2 (by omega) (Or.inr hb) t3⟩
          · obtain ⟨ρ, s1, s2, s3⟩ := ih1 (by omega) σ hσ
            obtain ⟨τ, t1, t2, t3⟩ := ihn (k + 1) ρ (by omega) s1
            exact ⟨τ, t1, RPc.go (by omega) hq h6 he ho (by omega) (by omega) h30 (by omega) (by omega) s2 t2, RPm.go (by omega) hq h6 he rfl h30 ho (by omega) (by omega) (by omega) (by omega) s3 t3⟩
      obtain ⟨τ, t1, t2, t3⟩ := loop q.2.1 0 (q_s1 σ) (by omega) ⟨hσ.1, hσ.2.1, by show σ.2.1 + 1 ≤ 200; omega⟩
      exact ⟨τ, t1, RUc.rep (by omega) hq h6 h30 (by omega) (by omega) (by omega) t2, RUm.rep (by omega) hq h6 h30 (by omega) (by omega) (by omega) t3⟩
end
/-- what all steps of a work make of a state -/
noncomputable def q_rn (ψ : QF) (l : QL) (L : List QE) (r : QR) : QS4 := by
  classical exact if h : ∃ τ, q_oks ψ τ ∧ RUc ψ l L 0 L.length 0 (r, 0, 0, 0) τ ∧ RUm ψ l L 0 L.length 0 (r, 0, 0, 0) τ then Classical.choose h else (r, 0, 0, 0)
theorem q_rn_x {ψ : QF} {l : QL} {L : List QE} {r : QR} (hw : q_fw ψ) (hL : L.length ≤ 75) (hv : ∀ q ∈ L, q_evl ψ q) (h : QW L 0 L.length 0) (ho : q_ok ψ 999 r) (h12 : r 12 = 0) : q_oks ψ (q_rn ψ l L r) ∧ RUc ψ l L 0 L.length 0 (r, 0, 0, 0) (q_rn ψ l L r) ∧ RUm ψ l L 0 L.length 0 (r, 0, 0, 0) (q_rn ψ l L r) := by
  have H := q_run_x (l := l) hw hL hv h (Nat.zero_le _) (r, 0, 0, 0) ⟨ho, h12, Nat.zero_le _⟩
  unfold q_rn
  rw [dif_pos H]
  exact Classical.choose_spec H
