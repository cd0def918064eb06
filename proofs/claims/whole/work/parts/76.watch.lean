/-! watch -/
def q_cnt (P : Nat → Bool) : Nat → Nat
  | 0 => 0
  | n + 1 => q_cnt P n + (P n).toNat
theorem q_tN_le (x : Bool) : x.toNat ≤ 1 := by cases x <;> decide
theorem q_cnt_le (P : Nat → Bool) : ∀ n, q_cnt P n ≤ n
  | 0 => Nat.le_refl _
  | n + 1 => by
    have := q_cnt_le P n
    have := q_tN_le (P n)
    show q_cnt P n + (P n).toNat ≤ n + 1
    omega
theorem q_cnt_or {P Q R : Nat → Bool} : ∀ n, (∀ j, j < n → R j = true → P j = true ∨ Q j = true) → q_cnt R n ≤ q_cnt P n + q_cnt Q n
  | 0, _ => Nat.zero_le _
  | n + 1, h => by
    have h1 := q_cnt_or n (fun j hj => h j (by omega))
    have h2 := h n (by omega)
    show q_cnt R n + (R n).toNat ≤ q_cnt P n + (P n).toNat + (q_cnt Q n + (Q n).toNat)
    cases hR : R n
    · show q_cnt R n + 0 ≤ _
      omega
    · have := q_tN_le (P n)
      rcases h2 hR with e | e
      · rw [e]
        show q_cnt R n + 1 ≤ q_cnt P n + 1 + _
        omega
      · rw [e]
        show q_cnt R n + 1 ≤ _ + (q_cnt Q n + 1)
        omega
theorem q_cnt_0 {P : Nat → Bool} : ∀ n, (∀ j, j < n → P j = false) → q_cnt P n = 0
  | 0, _ => rfl
  | n + 1, h => by
    show q_cnt P n + (P n).toNat = 0
    rw [q_cnt_0 n (fun j hj => h j (by omega)), h n (by omega)]
    rfl
theorem q_cnt_1 {P : Nat → Bool} : ∀ n, (∀ i j, i < n → j < n → P i = true → P j = true → i = j) → q_cnt P n ≤ 1
  | 0, _ => Nat.zero_le _
  | n + 1, h => by
    show q_cnt P n + (P n).toNat ≤ 1
    cases hP : P n
    · have := q_cnt_1 n (fun i j hi hj => h i j (by omega) (by omega))
      show q_cnt P n + 0 ≤ 1
      omega
    · rw [q_cnt_0 n (fun j hj => by
        cases hj2 : P j
        · rfl
        · have := h j n (by omega) (by omega) hj2 hP
          omega)]
      exact Nat.le_refl _
theorem q_cnt_all {P : Nat → Bool} : ∀ n, (∀ j, j < n → P j = true) → q_cnt P n = n
  | 0, _ => rfl
  | n + 1, h => by
    show q_cnt P n + (P n).toNat = n + 1
    rw [q_cnt_all n (fun j hj => h j (by omega)), h n (by omega)]
    rfl
theorem q_cnt_lt {P Q : Nat → Bool} : ∀ n k, k < n → (∀ j, j < n → P j = true → Q j = true) → P k = false → Q k = true → q_cnt P n < q_cnt Q n
  | 0, k, hk, _, _, _ => absurd hk (by omega)
  | n + 1, k, hk, h, h1, h2 => by
    show q_cnt P n + (P n).toNat < q_cnt Q n + (Q n).toNat
    have hmono : q_cnt P n ≤ q_cnt Q n := by
      have := q_cnt_or (P := Q) (Q := fun _ => false) (R := P) n (fun j hj e => Or.inl (h j (by omega) e))
      rw [q_cnt_0 (P := fun _ => false) n (fun _ _ => rfl)] at this
      omega
    by_cases e : k = n
    · subst e
      rw [h1, h2]
      show q_cnt P k + 0 < q_cnt Q k + 1
      omega
    · have := q_cnt_lt n k (by omega) (fun j hj => h j (by omega)) h1 h2
      cases hP : P n
      · show q_cnt P n + 0 < _
        omega
      · rw [h n (by omega) hP]
        show q_cnt P n + 1 < q_cnt Q n + 1
        omega
/-- j watches ahead of i -/
def q_ahd (L : Nat → Nat) (i j : Nat) : Bool := decide (L i < L j ∨ (L j = L i ∧ j < i))
def q_bef (L : Nat → Nat) (M i : Nat) : Nat := q_cnt (q_ahd L i) M
theorem q_ahd_iff (L : Nat → Nat) (i j : Nat) : q_ahd L i j = true ↔ (L i < L j ∨ (L j = L i ∧ j < i)) := by
  unfold q_ahd
  exact decide_eq_true_iff
theorem q_ahd_f (L : Nat → Nat) (i j : Nat) : q_ahd L i j = false ↔ ¬ (L i < L j ∨ (L j = L i ∧ j < i)) := by
  unfold q_ahd
  exact decide_eq_false_iff_not
theorem q_bef_lt (L : Nat → Nat) {M i j : Nat} (hj : j < M) (h : q_ahd L i j = true) : q_bef L M j < q_bef L M i := by
  rw [q_ahd_iff] at h
  refine q_cnt_lt M j hj (fun k _ hk => ?_) ?_ ?_
  · rw [q_ahd_iff] at hk ⊢
    omega
  · rw [q_ahd_f]
    omega
  · rw [q_ahd_iff]
    exact h
theorem q_bef_inj (L : Nat → Nat) {M i j : Nat} (hi : i < M) (hj : j < M) (h : q_bef L M i = q_bef L M j) : i = j := by
  by_cases e : i = j
  · exact e
  · by_cases c : q_ahd L i j = true
    · have := q_bef_lt L hj c
      omega
    · have c2 : q_ahd L j i = true := by
        rw [q_ahd_iff] at c ⊢
        omega
      have := q_bef_lt L hi c2
      omega
theorem q_bef_M (L : Nat → Nat) {M i : Nat} (hi : i < M) : q_bef L M i < M := by
  have h := q_cnt_lt (P := q_ahd L i) (Q := fun _ => true) M i hi (fun _ _ _ => rfl) (by rw [q_ahd_f]; omega) rfl
  rw [q_cnt_all (P := fun _ => true) M (fun _ _ => rfl)] at h
  exact h
theorem q_bef_few (L : Nat → Nat) (M : Nat) : ∀ s, q_cnt (fun j => decide (q_bef L M j < s)) M ≤ s
  | 0 => by rw [q_cnt_0 M (fun j _ => decide_eq_false (by omega))]; exact Nat.le_refl _
  | s + 1 => by
    have h1 := q_bef_few L M s
    have h2 := q_cnt_1 (P := fun j => decide (q_bef L M j = s)) M (fun i j hi hj e1 e2 => q_bef_inj L hi hj (by rw [of_decide_eq_true e1, of_decide_eq_true e2]))
    have h3 := q_cnt_or (P := fun j => decide (q_bef L M j < s)) (Q := fun j => decide (q_bef L M j = s)) (R := fun j => decide (q_bef L M j < s + 1)) M (fun j _ e => by
      have := of_decide_eq_true e
      by_cases c : q_bef L M j < s
      · exact Or.inl (decide_eq_true c)
      · exact Or.inr (decide_eq_true (by omega)))
    omega
/-- how often i has watched in t nights -/
def q_wat (L : Nat → Nat) (M t i : Nat) : Nat := t / M + (if q_bef L M i < t % M then 1 else 0)
def q_wl (W L : Nat → Nat) (a i : Nat) : Prop := W a < W i ∨ (W a = W i ∧ (L i < L a ∨ (L a = L i ∧ a ≤ i)))
theorem q_wat_best (L : Nat → Nat) {M t B : Nat} (hB : B < M) (h : ∀ i, i < M → q_wl (q_wat L M t) L B i) : q_bef L M B = t % M := by
  have hs : t % M < M := Nat.mod_lt _ (by omega)
  have hfew := q_bef_few L M (t % M)
  have hge : t % M ≤ q_bef L M B := by
    by_cases c : t % M ≤ q_bef L M B
    · exact c
    · exfalso
      have hall : ∀ j, j < M → decide (q_bef L M j < t % M) = true := fun j hj => by
        refine decide_eq_true ?_
        have := h j hj
        unfold q_wl q_wat at this
        rw [if_pos (show q_bef L M B < t % M by omega)] at this
        by_cases c2 : q_bef L M j < t % M
        · exact c2
        · rw [if_neg c2] at this
          omega
      rw [q_cnt_all M hall] at hfew
      omega
  have hle : q_bef L M B ≤ t % M := by
    refine Nat.le_trans ?_ hfew
    have := q_cnt_or (P := fun j => decide (q_bef L M j < t % M)) (Q := fun _ => false) (R := q_ahd L B) M (fun j hj e => by
      refine Or.inl (decide_eq_true ?_)
      rw [q_ahd_iff] at e
      have := h j hj
      unfold q_wl q_wat at this
      rw [if_neg (show ¬ q_bef L M B < t % M by omega)] at this
      by_cases c2 : q_bef L M j < t % M
      · exact c2
      · rw [if_neg c2] at this
        omega)
    rw [q_cnt_0 (P := fun _ => false) M (fun _ _ => rfl)] at this
    exact this
  omega
theorem q_wat_s (L : Nat → Nat) {M t i : Nat} (hi : i < M) : q_wat L M (t + 1) i = q_wat L M t i + (if q_bef L M i = t % M then 1 else 0) := by
  have hM := q_bef_M L hi
  have hs : t % M < M := Nat.mod_lt _ (by omega)
  have hd := Nat.div_add_mod t M
  unfold q_wat
  by_cases c : t % M + 1 < M
  · have h1 : (t + 1) / M = t / M := by
      rw [← hd, Nat.add_assoc, Nat.mul_add_div (by omega), Nat.mul_add_div (by omega), Nat.div_eq_of_lt c, Nat.div_eq_of_lt hs]
    have h2 : (t + 1) % M = t % M + 1 := by
      have hd2 := Nat.div_add_mod (t + 1) M
      rw [h1] at hd2
      omega
    rw [h1, h2]
    by_cases c1 : q_bef L M i < t % M
    · rw [if_pos c1, if_pos (by omega), if_neg (by omega)]
    · rw [if_neg c1]
      by_cases c2 : q_bef L M i = t % M
      · rw [if_pos c2, if_pos (by omega)]
      · rw [if_neg c2, if_neg (by omega)]
  · have e : t + 1 = M * (t / M + 1) := by rw [Nat.mul_add]; omega
    have h1 : (t + 1) / M = t / M + 1 := by rw [e, Nat.mul_div_cancel_left _ (by omega)]
    have h2 : (t + 1) % M = 0 := by rw [e, Nat.mul_mod_right]
    rw [h1, h2]
    by_cases c1 : q_bef L M i < t % M
    · rw [if_pos c1, if_neg (by omega), if_neg (by omega)]
    · rw [if_neg c1, if_neg (by omega), if_pos (by omega)]
theorem qi_sub0 {i j : Nat} (hi : i < 100000) (hj : j < 100000) : (0 < Int32.ofNat i - Int32.ofNat j) = (j < i) := by
  rw [Int32.lt_iff_toInt_lt, Int32.toInt_sub, qi_i (by omega), qi_i (by omega), show (0 : Int32).toInt = 0 by decide, Int.bmod_eq_of_le (by omega) (by omega)]
  exact propext ⟨fun h => by omega, fun h => by omega⟩
theorem qi_sube {i j : Nat} (hi : i < 100000) (hj : j < 100000) : (Int32.ofNat i - Int32.ofNat j = 0) = (i = j) := by
  rw [← Int32.toInt_inj, Int32.toInt_sub, qi_i (by omega), qi_i (by omega), show (0 : Int32).toInt = 0 by decide, Int.bmod_eq_of_le (by omega) (by omega)]
  exact propext ⟨fun h => by omega, fun h => by omega⟩
def q_lam (ψ : QF) (i : Nat) : Nat := (ψ 4 i).toNatClampNeg
theorem q_fw_lam {ψ : QF} (h : q_fw ψ) {k : Nat} (hk : k < (ψ 0 5).toNatClampNeg) : k < 8 ∧ ψ 4 k = Int32.ofNat (q_lam ψ k) ∧ q_lam ψ k ≤ 40 := by
  obtain ⟨⟨nv, nc, nm, nh, e1, e2, e3, e4, b1, b2, b3, b4, f1, f2, f3, f4⟩, -⟩ := h
  rw [e3, qi_tn (by omega)] at hk
  obtain ⟨x, hx, ex⟩ := f3 k hk
  unfold q_lam
  rw [ex, qi_tn (by omega)]
  exact ⟨by omega, rfl, hx⟩
section
variable {Z : AxS} {b m fa sf la sl bo sb N B : Nat} {ψ : QF} {l : QL} {r ρ : QR} {f f0 : Nat → Nat → Int32}
theorem qc_watch_l {M k n : Nat} (h : HC Z b fa sf la sl bo sb f ψ l r) (hM : (ψ 0 5).toNatClampNeg = M) (hk : k < M) (hn : n ≤ 60) : ∀ (c i fu : Nat), i + c = M → c < fu → F_X9_watch_48 N fu b (Int32.ofNat k) (Int32.ofNat n) (Int32.ofNat (q_cnt (q_ahd (q_lam ψ) k) i)) (Int32.ofNat i) (axM Z f) = some (.inl (Int32.ofNat (q_wat (q_lam ψ) M n k)), axM Z f) := by
  have h0 := h.1.1.1
  have pf := h.1.1.2.1
  have hfa := h.1.2.1.1
  obtain ⟨nm, n8, en, et⟩ := (q_fw_n h.2.2.1).2.2.1
  have e5 : f fa 5 = Int32.ofNat M := by rw [← hM, et, ← en]; exact rdF_0 h.2.1 (by omega)
  obtain ⟨k8, ek, lk⟩ := q_fw_lam h.2.2.1 (show k < (ψ 0 5).toNatClampNeg by omega)
  intro c
  induction c with
  | zero =>
    intro i fu hi hfu
    obtain ⟨fu, rfl⟩ : ∃ q, fu = q + 1 := ⟨fu - 1, by omega⟩
    show F_X9_watch_48b N (F_X9_watch_48 N fu) b (Int32.ofNat k) (Int32.ofNat n) _ (Int32.ofNat i) (axM Z f) = _
    unfold F_X9_watch_48b
    have hne := qi_nz (show M < 2147483648 by omega) (by omega)
    have hcl := q_cnt_le (q_ahd (q_lam ψ) k) i
    have hms : n % M < M := Nat.mod_lt _ (by omega)
    have hnd : n / M ≤ n := Nat.div_le_self _ _
    have e : i = M := by omega
    subst e
    rw [m_gr h0 pf, m_gi hfa.1, e5, if_pos (Int32.le_refl _), m_gr h0 pf, m_gi hfa.1, e5, m_ne hne, m_gr h0 pf, m_gi hfa.1, e5, m_ne hne, qi_modn (by omega) (by omega), qi_div (by omega) (by omega)]
    unfold q_wat
    show (if Int32.ofNat (n % i) ≤ Int32.ofNat (q_bef (q_lam ψ) i k) then _ else _) = _
    have hb := q_bef_M (q_lam ψ) hk
    by_cases cc : q_bef (q_lam ψ) i k < n % i
    · rw [if_neg (qi_nge cc (by omega)), if_pos cc, qi_s]
    · rw [if_pos (qi_ge (by omega) (by omega)), if_neg cc, Int32.add_zero, Nat.add_zero]
  | succ c ih =>
    intro i fu hi hfu
    obtain ⟨fu, rfl⟩ : ∃ q, fu = q + 1 := ⟨fu - 1, by omega⟩
    show F_X9_watch_48b N (F_X9_watch_48 N fu) b (Int32.ofNat k) (Int32.ofNat n) _ (Int32.ofNat i) (axM Z f) = _
    unfold F_X9_watch_48b F_X9_watch_102 F_X9_watch_105
    obtain ⟨i8, ei, li⟩ := q_fw_lam h.2.2.1 (show i < (ψ 0 5).toNatClampNeg by omega)
    have ih := ih (i + 1) fu (by omega) (by omega)
    have hsu : q_cnt (q_ahd (q_lam ψ) k) (i + 1) = q_cnt (q_ahd (q_lam ψ) k) i + (q_ahd (q_lam ψ) k i).toNat := rfl
    rw [hsu] at ih
    rw [m_gr h0 pf, m_gi hfa.1, e5, if_neg (qi_nge (by omega) (by omega)), m_gr h0 pf, m_gr hfa.1 hfa.2.2.2.2.1.1, m_atn N hfa.2.2.2.2.1.2 i8 (by omega), axB_s, m_gr h0 pf, m_gr hfa.1 hfa.2.2.2.2.1.1, m_atn N hfa.2.2.2.2.1.2 k8 (by omega), axB_s, rdF_4 h.2.1 (show i < (ψ 0 5).toNatClampNeg by omega), rdF_4 h.2.1 (show k < (ψ 0 5).toNatClampNeg by omega), ei, ek, qi_s, qi_s]
    have hT : (q_lam ψ k < q_lam ψ i ∨ (q_lam ψ i = q_lam ψ k ∧ i < k)) → F_X9_watch_48 N fu b (Int32.ofNat k) (Int32.ofNat n) (Int32.ofNat (q_cnt (q_ahd (q_lam ψ) k) i + 1)) (Int32.ofNat (i + 1)) (axM Z f) = some (.inl (Int32.ofNat (q_wat (q_lam ψ) M n k)), axM Z f) := fun hh => by
      rw [(q_ahd_iff _ _ _).mpr hh] at ih
      exact ih
    have hF : ¬ (q_lam ψ k < q_lam ψ i ∨ (q_lam ψ i = q_lam ψ k ∧ i < k)) → F_X9_watch_48 N fu b (Int32.ofNat k) (Int32.ofNat n) (Int32.ofNat (q_cnt (q_ahd (q_lam ψ) k) i)) (Int32.ofNat (i + 1)) (axM Z f) = some (.inl (Int32.ofNat (q_wat (q_lam ψ) M n k)), axM Z f) := fun hh => by
      rw [(q_ahd_f _ _ _).mpr hh] at ih
      exact ih
    have s1 := qi_sub0 (i := q_lam ψ i) (j := q_lam ψ k) (by omega) (by omega)
    have s2 := qi_sube (i := q_lam ψ i) (j := q_lam ψ k) (by omega) (by omega)
    by_cases c1 : q_lam ψ k < q_lam ψ i
    · rw [if_pos (show 0 < Int32.ofNat (q_lam ψ i) - Int32.ofNat (q_lam ψ k) by rw [s1]; exact c1)]
      exact hT (Or.inl c1)
    · rw [if_neg (show ¬ 0 < Int32.ofNat (q_lam ψ i) - Int32.ofNat (q_lam ψ k) by rw [s1]; exact c1)]
      by_cases c2 : q_lam ψ i = q_lam ψ k
      · rw [if_pos (show Int32.ofNat (q_lam ψ i) - Int32.ofNat (q_lam ψ k) = 0 by rw [s2]; exact c2)]
        by_cases c3 : k ≤ i
        · rw [if_pos (qi_ge c3 (by omega))]
          exact hF (by omega)
        · rw [if_neg (qi_nge (by omega) (by omega))]
          exact hT (by omega)
      · rw [if_neg (show ¬ Int32.ofNat (q_lam ψ i) - Int32.ofNat (q_lam ψ k) = 0 by rw [s2]; exact c2)]
        exact hF (by omega)
theorem qc_watch (hN : 2000 < N) (h : HC Z b fa sf la sl bo sb f ψ l r) (x n : Int32) : (∀ k, k < (ψ 0 5).toNatClampNeg → x = Int32.ofNat k → (0 ≤ n ∧ n ≤ 60) → CQz Z b f (F_X9_watch N b x n (axM Z f)) (Int32.ofNat (q_wat (q_lam ψ) (ψ 0 5).toNatClampNeg n.toNatClampNeg k))) ∧ (¬ (0 ≤ x ∧ x < ψ 0 5) → CTz Z b f (F_X9_watch N b x n (axM Z f)) q_nse 14) ∧ ((0 ≤ x ∧ x < ψ 0 5) → ¬ (0 ≤ n ∧ n ≤ 60) → CTz Z b f (F_X9_watch N b x n (axM Z f)) q_iae 15) := by
  have h0 := h.1.1.1
  have pf := h.1.1.2.1
  have hfa := h.1.2.1.1
  obtain ⟨nm, n8, en, et⟩ := (q_fw_n h.2.2.1).2.2.1
  have e5 : f fa 5 = ψ 0 5 := rdF_0 h.2.1 (by omega)
  unfold F_X9_watch F_X9_watch_27 F_X9_watch_28
  rw [m_gr h0 pf, m_gi hfa.1, e5, m_is h0]
  refine ⟨fun k hk ex c => ?_, fun c => ?_, fun c1 c2 => ?_⟩
  · subst ex
    rw [qc_one1 N (qi_ge (i := 0) (by omega) (by omega)) (by rw [en]; exact qi_gt (by omega) (by omega))]
    simp only [qc_needT h0, qc_needO h0, q_rg rfl]
    obtain ⟨n', hn, rfl⟩ := q_nn c.1 (show n ≤ Int32.ofNat 60 from c.2) (by omega)
    have hl := qc_watch_l (N := N) h rfl hk hn (ψ 0 5).toNatClampNeg 0 N (by omega) (by omega)
    rw [if_pos c, m_gr h0 pf, m_gi hfa.1, e5, if_pos (show 0 < ψ 0 5 by rw [en]; exact qi_gt (i := 0) (by omega) (by omega)), qi_tn (by omega)]
    exact CQz.mk0 hl
  · rw [qc_one0 N h0 c]
    exact CTz.mk rfl
  · rw [qc_one1 N c1.1 c1.2]
    simp only [qc_needT h0, qc_needO h0, q_rg rfl]
    rw [if_neg c2]
    exact CTz.mk rfl
theorem HM.wd (h : LMo Z m) : axP Z m 45 = some (m + 529) ∧ axL Z (m + 529) = some (1, 8) := ⟨h.2.1 45 529 rfl, h.2.2.1 529 _ rfl⟩
theorem qm_watcher {M t : Nat} (h : HM Z m f ψ l r) (hM : (ψ 0 5).toNatClampNeg = M) (ht : t ≤ 60) (hs : ∀ i, i < M → f (m + 529) i = Int32.ofNat (q_wat (q_lam ψ) M t i)) : ∀ (c i fu B : Nat), i + c = M → c < fu → B < i → (∀ j, j < i → q_wl (q_wat (q_lam ψ) M t) (q_lam ψ) B j) → ∃ B', B' < M ∧ (∀ j, j < M → q_wl (q_wat (q_lam ψ) M t) (q_lam ψ) B' j) ∧ F_X10_watcher_4 N fu m (Int32.ofNat B) (Int32.ofNat i) (axM Z f) = some (Int32.ofNat B', axM Z f) := by
  have h0 := h.1.1
  obtain ⟨⟨p12, s4⟩, e4, e5, hmc, hc8⟩ := h.nm
  rw [hM] at e5
  obtain ⟨p45, s45⟩ := HM.wd h.1
  obtain ⟨g1, g2, g3⟩ := LMo_of h.1
  obtain ⟨g4, g5⟩ := g3 2 (by omega)
  have hw61 : ∀ i, q_wat (q_lam ψ) M t i ≤ 61 := fun i => by
    unfold q_wat
    have := Nat.div_le_self t M
    split <;> omega
  intro c
  induction c with
  | zero =>
    intro i fu B hi hfu hB hl
    obtain ⟨fu, rfl⟩ : ∃ q, fu = q + 1 := ⟨fu - 1, by omega⟩
    refine ⟨B, by omega, fun j hj => hl j (by omega), ?_⟩
    show F_X10_watcher_4b N (F_X10_watcher_4 N fu) m (Int32.ofNat B) (Int32.ofNat i) (axM Z f) = _
    unfold F_X10_watcher_4b
    rw [m_gr h0 p12, m_ld7_2 s4, e5, if_pos (qi_ge (by omega) (by omega))]
  | succ c ih =>
    intro i fu B hi hfu hB hl
    obtain ⟨fu, rfl⟩ : ∃ q, fu = q + 1 := ⟨fu - 1, by omega⟩
    show ∃ B', B' < M ∧ (∀ j, j < M → q_wl (q_wat (q_lam ψ) M t) (q_lam ψ) B' j) ∧ F_X10_watcher_4b N (F_X10_watcher_4 N fu) m (Int32.ofNat B) (Int32.ofNat i) (axM Z f) = _
    unfold F_X10_watcher_4b F_X10_watcher_63 F_X10_watcher_65
    obtain ⟨i8, ei, li⟩ := q_fw_lam h.2.2.1 (show i < (ψ 0 5).toNatClampNeg by omega)
    obtain ⟨B8, eB, lB⟩ := q_fw_lam h.2.2.1 (show B < (ψ 0 5).toNatClampNeg by omega)
    have ci : f (m + 13 + 2) i = ψ 4 i := rdG_4 h.2.1 (by omega)
    have cB : f (m + 13 + 2) B = ψ 4 B := rdG_4 h.2.1 (by omega)
    have wi := hw61 i
    have wB := hw61 B
    rw [m_gr h0 p12, m_ld7_2 s4, e5, if_neg (qi_nge (by omega) (by omega)), m_gr h0 p45, m_ldn s45 i8 (by omega), m_gr h0 p45, m_ldn s45 B8 (by omega), hs i (by omega), hs B (by omega), m_gr h0 p45, m_ldn s45 i8 (by omega), m_gr h0 p45, m_ldn s45 B8 (by omega), hs i (by omega), hs B (by omega), m_gr h0 g1, m_ldr_2 g2 (by omega) (by omega) g4, m_ldn g5 i8 (by omega), m_gr h0 g1, m_ldr_2 g2 (by omega) (by omega) g4, m_ldn g5 B8 (by omega), ci, cB, ei, eB, qi_s]
    have sw : (q_wat (q_lam ψ) M t i < q_wat (q_lam ψ) M t B ∨ (q_wat (q_lam ψ) M t i = q_wat (q_lam ψ) M t B ∧ q_lam ψ B < q_lam ψ i)) → ∃ B', B' < M ∧ (∀ j, j < M → q_wl (q_wat (q_lam ψ) M t) (q_lam ψ) B' j) ∧ F_X10_watcher_4 N fu m (Int32.ofNat i) (Int32.ofNat (i + 1)) (axM Z f) = some (Int32.ofNat B', axM Z f) := fun hh => by
      refine ih (i + 1) fu i (by omega) (by omega) (by omega) (fun j hj => ?_)
      by_cases e : j = i
      · subst e
        unfold q_wl
        omega
      · have := hl j (by omega)
        unfold q_wl at this ⊢
        omega
    have kp : ¬ (q_wat (q_lam ψ) M t i < q_wat (q_lam ψ) M t B ∨ (q_wat (q_lam ψ) M t i = q_wat (q_lam ψ) M t B ∧ q_lam ψ B < q_lam ψ i)) → ∃ B', B' < M ∧ (∀ j, j < M → q_wl (q_wat (q_lam ψ) M t) (q_lam ψ) B' j) ∧ F_X10_watcher_4 N fu m (Int32.ofNat B) (Int32.ofNat (i + 1)) (axM Z f) = some (Int32.ofNat B', axM Z f) := fun hh => by
      refine ih (i + 1) fu B (by omega) (by omega) (by omega) (fun j hj => ?_)
      by_cases e : j = i
      · subst e
        unfold q_wl
        omega
      · exact hl j (by omega)
    by_cases c1 : q_wat (q_lam ψ) M t i < q_wat (q_lam ψ) M t B
    · rw [if_pos (qi_gt c1 (by omega))]
      exact sw (Or.inl c1)
    · rw [if_neg (qi_ngt (by omega) (by omega))]
      by_cases c2 : q_wat (q_lam ψ) M t i = q_wat (q_lam ψ) M t B
      · rw [if_pos (by rw [c2])]
        by_cases c3 : q_lam ψ i ≤ q_lam ψ B
        · rw [if_pos (qi_ge c3 (by omega))]
          exact kp (by omega)
        · rw [if_neg (qi_nge (by omega) (by omega))]
          exact sw (by omega)
      · rw [if_neg (qi_ne c2 (by omega) (by omega))]
        exact kp (by omega)
theorem qm_watch69 (hN : 2000 < N) {M k n : Nat} (hM : (ψ 0 5).toNatClampNeg = M) (hk : k < M) (hn : n ≤ 60) : ∀ (c t fu : Nat) (f : Nat → Nat → Int32), t + c = n → c < fu → HM Z m f ψ l r → (∀ i, i < M → f (m + 529) i = Int32.ofNat (q_wat (q_lam ψ) M t i)) → ∃ f', F_X10_watch_69 N fu m (Int32.ofNat k) (Int32.ofNat n) (Int32.ofNat t) (axM Z f) = some (Int32.ofNat (q_wat (q_lam ψ) M n k), axM Z f') ∧ ∀ x, ¬ scM m x → f' x = f x := by
  intro c
  induction c with
  | zero =>
    intro t fu f ht hfu h hs
    obtain ⟨fu, rfl⟩ : ∃ q, fu = q + 1 := ⟨fu - 1, by omega⟩
    show ∃ f', F_X10_watch_69b N (F_X10_watch_69 N fu) m (Int32.ofNat k) (Int32.ofNat n) (Int32.ofNat t) (axM Z f) = _ ∧ _
    obtain ⟨⟨p12, s4⟩, e4, e5, hmc, hc8⟩ := h.nm
    obtain ⟨p45, s45⟩ := HM.wd h.1
    unfold F_X10_watch_69b
    rw [if_pos (qi_ge (by omega) (by omega)), m_gr h.1.1 p45, m_ldn s45 (show k < 8 by omega) (by omega), hs k hk, show t = n by omega]
    exact ⟨f, rfl, fun _ _ => rfl⟩
  | succ c ih =>
    intro t fu f ht hfu h hs
    obtain ⟨fu, rfl⟩ : ∃ q, fu = q + 1 := ⟨fu - 1, by omega⟩
    show ∃ f', F_X10_watch_69b N (F_X10_watch_69 N fu) m (Int32.ofNat k) (Int32.ofNat n) (Int32.ofNat t) (axM Z f) = _ ∧ _
    have h0 := h.1.1
    obtain ⟨⟨p12, s4⟩, e4, e5, hmc, hc8⟩ := h.nm
    obtain ⟨p45, s45⟩ := HM.wd h.1
    obtain ⟨B, hB, hl, eB⟩ := qm_watcher (N := N) h hM (show t ≤ 60 by omega) hs (M - 1) 1 N 0 (by omega) (by omega) (by omega) (fun j hj => by
      have : j = 0 := by omega
      subst this
      unfold q_wl
      omega)
    have hbs := q_wat_best (q_lam ψ) hB hl
    unfold F_X10_watch_69b F_X10_watcher
    rw [if_neg (qi_nge (by omega) (by omega)), m_gr h0 p45, m_is h0, show F_X10_watcher_4 N N m 0 1 (axM Z f) = _ from eB, axB_s, m_ldn s45 (show B < 8 by omega) (by omega), m_stn s45 (show B < 8 by omega) (by omega), hs B hB, qi_s, qi_s]
    have F1 : ∀ x, ¬ scM m x → ax2 f (m + 529) B (Int32.ofNat (q_wat (q_lam ψ) M t B + 1)) x = f x := fun x hx => ax2_n _ _ _ _ (by unfold scM at hx; omega)
    obtain ⟨f2, e2, fr2⟩ := ih (t + 1) fu (ax2 f (m + 529) B (Int32.ofNat (q_wat (q_lam ψ) M t B + 1))) (by omega) (by omega) (h.sc F1) (fun i hi => by
      rw [ax2_a, q_wat_s (q_lam ψ) hi]
      by_cases e : i = B
      · rw [if_pos e, e, if_pos hbs]
      · rw [if_neg e, if_neg (fun z => e (q_bef_inj (q_lam ψ) hi hB (by rw [z, hbs]))), hs i hi]
        rfl)
    exact ⟨f2, e2, fun x hx => by rw [fr2 x hx, F1 x hx]⟩
theorem qm_watch48 (hN : 2000 < N) {M k n : Nat} (hM : (ψ 0 5).toNatClampNeg = M) (hk : k < M) (hn : n ≤ 60) : ∀ (c i fu : Nat) (f : Nat → Nat → Int32), i + c = 8 → c < fu → HM Z m f ψ l r → (∀ j, j < i → f (m + 529) j = 0) → ∃ f', F_X10_watch_48 N fu m (Int32.ofNat k) (Int32.ofNat n) (Int32.ofNat i) (axM Z f) = some (Int32.ofNat (q_wat (q_lam ψ) M n k), axM Z f') ∧ ∀ x, ¬ scM m x → f' x = f x := by
  intro c
  induction c with
  | zero =>
    intro i fu f hi hfu h hs
    obtain ⟨fu, rfl⟩ : ∃ q, fu = q + 1 := ⟨fu - 1, by omega⟩
    show ∃ f', F_X10_watch_48b N (F_X10_watch_48 N fu) m (Int32.ofNat k) (Int32.ofNat n) (Int32.ofNat i) (axM Z f) = _ ∧ _
    obtain ⟨⟨p12, s4⟩, e4, e5, hmc, hc8⟩ := h.nm
    unfold F_X10_watch_48b
    rw [if_pos (show (8 : Int32) ≤ Int32.ofNat i from qi_ge (i := 8) (by omega) (by omega))]
    exact qm_watch69 hN hM hk hn n 0 N f (by omega) (by omega) h (fun j hj => by
      rw [hs j (by omega)]
      unfold q_wat
      rw [Nat.zero_div, Nat.zero_mod, if_neg (by omega)]
      rfl)
  | succ c ih =>
    intro i fu f hi hfu h hs
    obtain ⟨fu, rfl⟩ : ∃ q, fu = q + 1 := ⟨fu - 1, by omega⟩
    show ∃ f', F_X10_watch_48b N (F_X10_watch_48 N fu) m (Int32.ofNat k) (Int32.ofNat n) (Int32.ofNat i) (axM Z f) = _ ∧ _
    obtain ⟨p45, s45⟩ := HM.wd h.1
    unfold F_X10_watch_48b
    rw [if_neg (show ¬ (8 : Int32) ≤ Int32.ofNat i from qi_nge (i := 8) (by omega) (by omega)), m_gr h.1.1 p45, m_stn s45 (show i < 8 by omega) (by omega), qi_s]
    have F1 : ∀ x, ¬ scM m x → ax2 f (m + 529) i 0 x = f x := fun x hx => ax2_n _ _ _ _ (by unfold scM at hx; omega)
    obtain ⟨f2, e2, fr2⟩ := ih (i + 1) fu (ax2 f (m + 529) i 0) (by omega) (by omega) (h.sc F1) (fun j hj => by
      rw [ax2_a]
      by_cases e : j = i
      · rw [if_pos e]
      · rw [if_neg e]
        exact hs j (by omega))
    exact ⟨f2, e2, fun x hx => by rw [fr2 x hx, F1 x hx]⟩
theorem qm_watch (hN : 2000 < N) (h : HM Z m f ψ l r) (x n : Int32) : (∀ k, k < (ψ 0 5).toNatClampNeg → x = Int32.ofNat k → (0 ≤ n ∧ n ≤ 60) → MQz Z m f (F_X10_watch N m x n (axM Z f)) (Int32.ofNat (q_wat (q_lam ψ) (ψ 0 5).toNatClampNeg n.toNatClampNeg k))) ∧ (¬ (0 ≤ x ∧ x < ψ 0 5) → MTz Z m f (F_X10_watch N m x n (axM Z f)) 1 0) ∧ ((0 ≤ x ∧ x < ψ 0 5) → ¬ (0 ≤ n ∧ n ≤ 60) → MTz Z m f (F_X10_watch N m x n (axM Z f)) 2 1) := by
  have h' := h.t0
  have hm := h.1
  have h0 := h.1.1
  obtain ⟨nm, n8, en, et⟩ := (q_fw_n h.2.2.1).2.2.1
  have e5 : ax2 f m 0 0 (m + 4) 2 = Int32.ofNat nm := (rdG_0 h'.2.1 (show 5 < 7 by omega)).trans en
  have hno := qm_isNo (x := x) N hm (show 2 < 7 by omega) (show nm < 2147483648 by omega) e5
  have hno : F_X10_isNo N m 2 x (axM Z (ax2 f m 0 0)) = _ := hno
  rw [← en] at hno
  unfold F_X10_watch F_X10_watch_36
  rw [m_pi h0, m_is h0, hno, axB_s, m_is h0]
  refine ⟨fun k hk ex c => ?_, fun c => ?_, fun c1 c2 => ?_⟩
  · subst ex
    rw [if_pos ⟨qi_ge (i := 0) (by omega) (by omega), by rw [en]; exact qi_gt (by omega) (by omega)⟩, qm_badF N h0, m_in, axB_s, if_pos c, if_neg (by decide), m_is h0, qm_badF N h0]
    obtain ⟨n', hn, rfl⟩ := q_nn c.1 (show n ≤ Int32.ofNat 60 from c.2) (by omega)
    rw [qi_tn (by omega)]
    obtain ⟨f1, e1, fr1⟩ := qm_watch48 hN rfl hk hn 8 0 N (ax2 f m 0 0) (by omega) (by omega) h' (fun j hj => absurd hj (by omega))
    exact MQz.mkk f1 e1 (KM.sc fr1)
  · rw [if_neg c]
    exact qm_badN N hm _ _
  · rw [if_pos c1, qm_badF N h0, m_in, axB_s, if_neg c2, if_pos rfl, m_is h0]
    exact qm_badT2 N hm _ _
end
