/-! beds -/
def q_pcE (v0 : Int32) : Int32 := (((((((v0 - ((axUshr v0 1) &&& 1431655765)) &&& 858993459) + ((axUshr (v0 - ((axUshr v0 1) &&& 1431655765)) 2) &&& 858993459)) + (axUshr (((v0 - ((axUshr v0 1) &&& 1431655765)) &&& 858993459) + ((axUshr (v0 - ((axUshr v0 1) &&& 1431655765)) 2) &&& 858993459)) 4)) &&& 252645135) + (axUshr (((((v0 - ((axUshr v0 1) &&& 1431655765)) &&& 858993459) + ((axUshr (v0 - ((axUshr v0 1) &&& 1431655765)) 2) &&& 858993459)) + (axUshr (((v0 - ((axUshr v0 1) &&& 1431655765)) &&& 858993459) + ((axUshr (v0 - ((axUshr v0 1) &&& 1431655765)) 2) &&& 858993459)) 4)) &&& 252645135) 8)) + (axUshr ((((((v0 - ((axUshr v0 1) &&& 1431655765)) &&& 858993459) + ((axUshr (v0 - ((axUshr v0 1) &&& 1431655765)) 2) &&& 858993459)) + (axUshr (((v0 - ((axUshr v0 1) &&& 1431655765)) &&& 858993459) + ((axUshr (v0 - ((axUshr v0 1) &&& 1431655765)) 2) &&& 858993459)) 4)) &&& 252645135) + (axUshr (((((v0 - ((axUshr v0 1) &&& 1431655765)) &&& 858993459) + ((axUshr (v0 - ((axUshr v0 1) &&& 1431655765)) 2) &&& 858993459)) + (axUshr (((v0 - ((axUshr v0 1) &&& 1431655765)) &&& 858993459) + ((axUshr (v0 - ((axUshr v0 1) &&& 1431655765)) 2) &&& 858993459)) 4)) &&& 252645135) 8)) 16)) &&& 63
theorem m_pc (N : Nat) (v0 : Int32) (S : AxS) : F_J6_bitCount_0f7a4 N v0 S = some (q_pcE v0, S) := by
  unfold F_J6_bitCount_0f7a4 q_pcE
  exact rfl
def q_pop (T : Nat) : Nat := (T.testBit 0).toNat + (T.testBit 1).toNat + (T.testBit 2).toNat + (T.testBit 3).toNat + (T.testBit 4).toNat + (T.testBit 5).toNat + (T.testBit 6).toNat + (T.testBit 7).toNat
theorem q_tab1 : ∀ T, T < 256 → q_pcE (Int32.ofNat T) = Int32.ofNat (q_pop T) := by decide +kernel
theorem q_tab2 : ∀ T, T < 256 → ∀ c, c < 8 → q_bit (Int32.ofNat T) (Int32.ofNat c) = Int32.ofNat (T.testBit c).toNat ∧ Int32.ofNat T ||| ((1 : Int32) <<< (Int32.ofNat c &&& 31)) = Int32.ofNat (T ||| 2 ^ c) ∧ (T.testBit c = false → q_pop (T ||| 2 ^ c) = q_pop T + 1 ∧ T < T ||| 2 ^ c) := by decide +kernel
theorem q_tab3 : ∀ n, n < 9 → ∀ T, T < 256 → T < 2 ^ n → (∀ c, c < n → T.testBit c = true) → n ≤ q_pop T := by decide +kernel
theorem q_tab4 : ∀ n, n < 9 → 2 ^ n ≤ 256 ∧ 0 < 2 ^ n ∧ ((1 : Int32) <<< (Int32.ofNat n &&& 31)) - 1 = Int32.ofNat (2 ^ n) + (-1) := by decide +kernel
/-- the best among cells from j on: its worth, the first cell that has it -/
def q_bw (T : Nat) (x : Nat → Nat) : Nat → Nat → Option (Nat × Nat)
  | 0, _ => none
  | n + 1, j => if T.testBit j = true then q_bw T x n (j + 1) else match q_bw T x n (j + 1) with
    | none => some (x j, j)
    | some z => if x j < z.1 then some z else some (x j, j)
def q_bv (o : Option (Nat × Nat)) : Nat := match o with
  | none => 0
  | some z => z.1
def q_bc (o : Option (Nat × Nat)) : Nat := match o with
  | none => 0
  | some z => z.2
def q_sg (ψ : QF) (s : Int32) (m c : Nat) : Nat := if q_slp ψ c s m = true then 1 else 0
def q_bV (ψ : QF) (s : Int32) (nc : Nat) : Nat → Nat → Nat → Nat
  | 0, _, _ => 0
  | k + 1, m, T => q_bv (q_bw T (fun c => q_sg ψ s m c + q_bV ψ s nc k (m + 1) (T ||| 2 ^ c)) nc 0)
def q_bx (ψ : QF) (s : Int32) (nc k m T : Nat) (c : Nat) : Nat := q_sg ψ s m c + q_bV ψ s nc k (m + 1) (T ||| 2 ^ c)
theorem q_bV_s (ψ : QF) (s : Int32) (nc k m T : Nat) : q_bV ψ s nc (k + 1) m T = q_bv (q_bw T (q_bx ψ s nc k m T) nc 0) := rfl
def q_bL (ψ : QF) (s : Int32) (nc : Nat) : Nat → Nat → Nat → Nat → Nat
  | 0, _, _, _ => 0
  | k + 1, m, T, i => if i = m then q_bc (q_bw T (q_bx ψ s nc k m T) nc 0) else q_bL ψ s nc k (m + 1) (T ||| 2 ^ q_bc (q_bw T (q_bx ψ s nc k m T) nc 0)) i
theorem q_bL_s (ψ : QF) (s : Int32) (nc k m T i : Nat) : q_bL ψ s nc (k + 1) m T i = if i = m then q_bc (q_bw T (q_bx ψ s nc k m T) nc 0) else q_bL ψ s nc k (m + 1) (T ||| 2 ^ q_bc (q_bw T (q_bx ψ s nc k m T) nc 0)) i := rfl
theorem q_bw_in (T : Nat) (x : Nat → Nat) : ∀ n j z, q_bw T x n j = some z → j ≤ z.2 ∧ z.2 < j + n ∧ T.testBit z.2 = false ∧ z.1 = x z.2
  | 0, j, z, h => by cases h
  | n + 1, j, z, h => by
    have ih := q_bw_in T x n (j + 1)
    unfold q_bw at h
    by_cases c : T.testBit j = true
    · rw [if_pos c] at h
      obtain ⟨a1, a2, a3, a4⟩ := ih z h
      exact ⟨by omega, by omega, a3, a4⟩
    · rw [if_neg c] at h
      have cf : T.testBit j = false := by
        cases hh : T.testBit j
        · rfl
        · exact absurd hh c
      cases hw : q_bw T x n (j + 1) with
      | none =>
        rw [hw] at h
        have h : some (x j, j) = some z := h
        cases h
        exact ⟨Nat.le_refl _, by show j < j + (n + 1); omega, cf, rfl⟩
      | some y =>
        rw [hw] at h
        have h : (if x j < y.1 then some y else some (x j, j)) = some z := h
        by_cases c2 : x j < y.1
        · rw [if_pos c2] at h
          rw [← Option.some.inj h]
          obtain ⟨a1, a2, a3, a4⟩ := ih y hw
          exact ⟨by omega, by omega, a3, a4⟩
        · rw [if_neg c2] at h
          cases h
          exact ⟨Nat.le_refl _, by show j < j + (n + 1); omega, cf, rfl⟩
theorem q_bw_none (T : Nat) (x : Nat → Nat) : ∀ n j, q_bw T x n j = none → ∀ c, j ≤ c → c < j + n → T.testBit c = true
  | 0, j, _, c, h1, h2 => absurd h2 (by omega)
  | n + 1, j, h, c, h1, h2 => by
    unfold q_bw at h
    by_cases cj : T.testBit j = true
    · rw [if_pos cj] at h
      by_cases e : c = j
      · rw [e]; exact cj
      · exact q_bw_none T x n (j + 1) h c (by omega) (by omega)
    · rw [if_neg cj] at h
      cases hw : q_bw T x n (j + 1) with
      | none => rw [hw] at h; cases h
      | some y =>
        rw [hw] at h
        have h : (if x j < y.1 then some y else some (x j, j)) = none := h
        split at h <;> cases h
theorem q_bw_t {T : Nat} (x : Nat → Nat) (n : Nat) {j : Nat} (h : T.testBit j = true) : q_bw T x (n + 1) j = q_bw T x n (j + 1) := if_pos h
theorem q_bw_f {T : Nat} (x : Nat → Nat) (n : Nat) {j : Nat} (h : T.testBit j = false) : q_bw T x (n + 1) j = match q_bw T x n (j + 1) with
    | none => some (x j, j)
    | some z => if x j < z.1 then some z else some (x j, j) := if_neg (by rw [h]; decide)
theorem q_bv_f {T : Nat} (x : Nat → Nat) (n : Nat) {j : Nat} (h : T.testBit j = false) : q_bv (q_bw T x (n + 1) j) = max (x j) (q_bv (q_bw T x n (j + 1))) := by
  rw [q_bw_f x n h]
  cases hw : q_bw T x n (j + 1) with
  | none =>
    show x j = max (x j) 0
    omega
  | some z =>
    show q_bv (if x j < z.1 then some z else some (x j, j)) = max (x j) z.1
    by_cases c : x j < z.1
    · rw [if_pos c]
      show z.1 = _
      omega
    · rw [if_neg c]
      show x j = _
      omega
theorem q_sg_le (ψ : QF) (s : Int32) (m c : Nat) : q_sg ψ s m c ≤ 1 := by
  unfold q_sg
  split <;> omega
theorem q_bV_le (ψ : QF) (s : Int32) (nc : Nat) : ∀ k m T, q_bV ψ s nc k m T ≤ k
  | 0, _, _ => Nat.le_refl _
  | k + 1, m, T => by
    rw [q_bV_s]
    cases hw : q_bw T (q_bx ψ s nc k m T) nc 0 with
    | none => exact Nat.zero_le _
    | some z =>
      obtain ⟨-, -, -, a4⟩ := q_bw_in _ _ _ _ _ hw
      show z.1 ≤ k + 1
      rw [a4]
      unfold q_bx
      have := q_bV_le ψ s nc k (m + 1) (T ||| 2 ^ z.2)
      have := q_sg_le ψ s m z.2
      omega
theorem q_bx_le (ψ : QF) (s : Int32) (nc k m T c : Nat) : q_bx ψ s nc k m T c ≤ k + 1 := by
  unfold q_bx
  have := q_bV_le ψ s nc k (m + 1) (T ||| 2 ^ c)
  have := q_sg_le ψ s m c
  omega
theorem q_orlt {T c n : Nat} (hn : n < 9) (hT : T < 2 ^ n) (hc : c < n) : T ||| 2 ^ c < 2 ^ n := Nat.or_lt_two_pow hT (Nat.pow_lt_pow_right (by omega) hc)
/-- there is a cell left -/
theorem q_bw_some {T nc m : Nat} (x : Nat → Nat) (hn : nc < 9) (hT : T < 2 ^ nc) (hp : q_pop T = m) (hm : m < nc) : ∃ z, q_bw T x nc 0 = some z := by
  cases hw : q_bw T x nc 0 with
  | some z => exact ⟨z, rfl⟩
  | none =>
    have h1 := q_bw_none T x nc 0 hw
    have := q_tab3 nc hn T (by have := (q_tab4 nc hn).1; omega) hT (fun c hc => h1 c (by omega) (by omega))
    omega
/-- what the class keeps for each set of cells -/
def q_bVV (ψ : QF) (s : Int32) (nc nm T : Nat) : Nat := if q_pop T < nm then q_bV ψ s nc (nm - q_pop T) (q_pop T) T else 0
theorem q_bVV_x (ψ : QF) (s : Int32) {nc nm T c : Nat} (hT : T < 256) (hc : c < 8) (hf : T.testBit c = false) (hp : q_pop T < nm) : q_bVV ψ s nc nm (T ||| 2 ^ c) = q_bV ψ s nc (nm - q_pop T - 1) (q_pop T + 1) (T ||| 2 ^ c) := by
  have h := ((q_tab2 T hT c hc).2.2 hf).1
  unfold q_bVV
  rw [h]
  by_cases e : q_pop T + 1 < nm
  · rw [if_pos e]
    congr 1
  · rw [if_neg e, show nm - q_pop T - 1 = 0 by omega]
    rfl
section
variable {Z : AxS} {b m fa sf la sl bo sb N B : Nat} {ψ : QF} {l : QL} {r ρ : QR} {f f0 : Nat → Nat → Int32}
theorem LCl.slf (h : LCl Z b fa sf la sl bo sb) : axP Z b 18 = some (b + 152) ∧ axL Z (b + 152) = some (1, 256) := h.2.2.2.2.2.2.2.2.2.2.2.2.2.1
theorem LCl.bed (h : LCl Z b fa sf la sl bo sb) : axP Z b 19 = some (b + 153) ∧ axL Z (b + 153) = some (1, 8) := h.2.2.2.2.2.2.2.2.2.2.2.2.2.2
theorem q_bit0 {T c : Nat} (hT : T < 256) (hc : c < 8) (h : T.testBit c = false) : (Int32.ofNat T >>> (Int32.ofNat c &&& 31)) &&& 1 = 0 := by
  have := (q_tab2 T hT c hc).1
  rw [h] at this
  exact this
theorem q_bit1 {T c : Nat} (hT : T < 256) (hc : c < 8) (h : T.testBit c = true) : (Int32.ofNat T >>> (Int32.ofNat c &&& 31)) &&& 1 = 1 := by
  have := (q_tab2 T hT c hc).1
  rw [h] at this
  exact this
theorem qc_sleepWith {k c T v : Nat} {s : Int32} (h : HC Z b fa sf la sl bo sb f ψ l r) (hc : c < (ψ 0 4).toNatClampNeg) (hk : k < (ψ 0 5).toNatClampNeg) (hT : T < 256) (hT2 : T ||| 2 ^ c < 256) (hv : f (b + 152) (T ||| 2 ^ c) = Int32.ofNat v) : F_X9_sleepWith N b (Int32.ofNat k) (Int32.ofNat c) (Int32.ofNat T) s (axM Z f) = some (Int32.ofNat (q_sg ψ s k c + v), axM Z f) := by
  have h0 := h.1.1.1
  have pf := h.1.1.2.1
  have hfa := h.1.2.1.1
  obtain ⟨c8, -⟩ := q_fw_cell h.2.2.1 hc
  unfold F_X9_sleepWith F_X9_sleepWith_19 q_sg
  rw [m_gr h0 pf, m_is hfa.1, qc_sleeps hfa h.2.1 h.2.2.1 hc hk, axB_s]
  by_cases q : q_slp ψ c s k = true
  · simp only [if_pos q]
    rw [if_neg (show ¬ (1 : Int32) = 0 by decide), m_gr h0 h.1.slf.1, (q_tab2 T hT c c8).2.1, m_atn N h.1.slf.2 hT2 (by omega), axB_s, hv, show (1 : Int32) + Int32.ofNat v = Int32.ofNat (1 + v) from qi_add 1 v]
  · simp only [if_neg q]
    rw [if_pos trivial, m_gr h0 h.1.slf.1, (q_tab2 T hT c c8).2.1, m_atn N h.1.slf.2 hT2 (by omega), axB_s, hv, show (0 : Int32) + Int32.ofNat v = Int32.ofNat (0 + v) from qi_add 0 v]
theorem qc_beds35 {nc nm T : Nat} {s : Int32} (h : HC Z b fa sf la sl bo sb f ψ l r) (hc : (ψ 0 4).toNatClampNeg = nc) (hm : (ψ 0 5).toNatClampNeg = nm) (hT : T < 2 ^ nc) (hp : q_pop T < nm) (hv : ∀ U, T < U → U < 2 ^ nc → f (b + 152) U = Int32.ofNat (q_bVV ψ s nc nm U)) (K : Nat → Int32 → Int32 → AxS → Option AxS) : ∀ (n c fu v : Nat), c + n = nc → n < fu → v ≤ 9 → F_X9_findBeds_35 N K fu b s (Int32.ofNat T) (Int32.ofNat (q_pop T)) (Int32.ofNat v) (Int32.ofNat c) (axM Z f) = F_X9_findBeds_91 N K b s (Int32.ofNat T) (Int32.ofNat (max v (q_bv (q_bw T (q_bx ψ s nc (nm - q_pop T - 1) (q_pop T) T) n c)))) (axM Z f) := by
  have h0 := h.1.1.1
  have pf := h.1.1.2.1
  have hfa := h.1.2.1.1
  obtain ⟨-, ⟨nc', c8, enc, etc⟩, ⟨nm', m8, enm, etm⟩, -⟩ := q_fw_n h.2.2.1
  have e4 : f fa 4 = Int32.ofNat nc := by rw [← hc, etc, ← enc]; exact rdF_0 h.2.1 (by omega)
  have e5 : f fa 5 = Int32.ofNat nm := by rw [← hm, etm, ← enm]; exact rdF_0 h.2.1 (by omega)
  have h256 := (q_tab4 nc (by omega)).1
  intro n
  induction n with
  | zero =>
    intro c fu v hcn hfu hv9
    obtain ⟨fu, rfl⟩ : ∃ q, fu = q + 1 := ⟨fu - 1, by omega⟩
    show F_X9_findBeds_35b N K (F_X9_findBeds_35 N K fu) b s (Int32.ofNat T) (Int32.ofNat (q_pop T)) (Int32.ofNat v) (Int32.ofNat c) (axM Z f) = _
    unfold F_X9_findBeds_35b
    rw [m_gr h0 pf, m_gi hfa.1, e4, if_pos (qi_ge (by omega) (by omega))]
    show _ = F_X9_findBeds_91 N K b s (Int32.ofNat T) (Int32.ofNat (max v 0)) (axM Z f)
    rw [Nat.max_zero]
  | succ n ih =>
    intro c fu v hcn hfu hv9
    obtain ⟨fu, rfl⟩ : ∃ q, fu = q + 1 := ⟨fu - 1, by omega⟩
    show F_X9_findBeds_35b N K (F_X9_findBeds_35 N K fu) b s (Int32.ofNat T) (Int32.ofNat (q_pop T)) (Int32.ofNat v) (Int32.ofNat c) (axM Z f) = _
    unfold F_X9_findBeds_35b F_X9_findBeds_85
    rw [m_gr h0 pf, m_gi hfa.1, e4, if_neg (qi_nge (by omega) (by omega)), m_gr h0 pf, m_gi hfa.1, e5, if_neg (qi_nge (by omega) (by omega))]
    cases hb : T.testBit c
    · have hor := q_orlt (show nc < 9 by omega) hT (show c < nc by omega)
      have hlt := ((q_tab2 T (by omega) c (by omega)).2.2 hb).2
      have hx := q_bx_le ψ s nc (nm - q_pop T - 1) (q_pop T) T c
      rw [if_pos (q_bit0 (by omega) (by omega) hb), m_is h0, qc_sleepWith h (by omega) (by omega) (by omega) (by omega) (hv _ hlt hor), axB_s, q_bVV_x ψ s (by omega) (by omega) hb hp, m_max, axB_s, qi_s]
      show F_X9_findBeds_35 N K fu b s _ _ (q_max (Int32.ofNat v) (Int32.ofNat (q_bx ψ s nc (nm - q_pop T - 1) (q_pop T) T c))) _ _ = _
      rw [q_maxn (by omega) (by omega), ih (c + 1) fu _ (by omega) (by omega) (by omega), q_bv_f _ _ hb]
      congr 2
      omega
    · rw [if_neg (by rw [q_bit1 (by omega) (by omega) hb]; decide), qi_s, ih (c + 1) fu v (by omega) (by omega) hv9, q_bw_t _ _ hb]
theorem qc_beds19 (hN : 2000 < N) {nc nm : Nat} {s : Int32} (hc : (ψ 0 4).toNatClampNeg = nc) (hm : (ψ 0 5).toNatClampNeg = nm) : ∀ (n fu : Nat) (f : Nat → Nat → Int32), n ≤ 2 ^ nc → n < fu → HC Z b fa sf la sl bo sb f ψ l r → (∀ U, n ≤ U → U < 2 ^ nc → f (b + 152) U = Int32.ofNat (q_bVV ψ s nc nm U)) → ∃ f', F_X9_findBeds_19 N fu b s (Int32.ofNat n + (-1)) (axM Z f) = F_X9_findBeds_112 N N b s 0 0 (axM Z f') ∧ (∀ U, U < 2 ^ nc → f' (b + 152) U = Int32.ofNat (q_bVV ψ s nc nm U)) ∧ ∀ x, ¬ scC b x → f' x = f x := by
  intro n
  induction n with
  | zero =>
    intro fu f hn hfu h hv
    obtain ⟨fu, rfl⟩ : ∃ q, fu = q + 1 := ⟨fu - 1, by omega⟩
    show ∃ f', F_X9_findBeds_19b N (F_X9_findBeds_19 N fu) b s (Int32.ofNat 0 + (-1)) (axM Z f) = _ ∧ _
    unfold F_X9_findBeds_19b
    rw [if_pos (by decide)]
    exact ⟨f, rfl, fun U hU => hv U (by omega) hU, fun _ _ => rfl⟩
  | succ n ih =>
    intro fu f hn hfu h hv
    obtain ⟨fu, rfl⟩ : ∃ q, fu = q + 1 := ⟨fu - 1, by omega⟩
    have h0 := h.1.1.1
    have pf := h.1.1.2.1
    have hfa := h.1.2.1.1
    obtain ⟨-, ⟨nc', c8, enc, etc⟩, ⟨nm', m8, enm, etm⟩, -⟩ := q_fw_n h.2.2.1
    have h256 := (q_tab4 nc (by omega)).1
    rw [qi_m1 (by omega), Nat.add_sub_cancel]
    show ∃ f', F_X9_findBeds_19b N (F_X9_findBeds_19 N fu) b s (Int32.ofNat n) (axM Z f) = _ ∧ _
    unfold F_X9_findBeds_19b
    rw [if_neg (qi_nn (by omega)), m_pc, axB_s, q_tab1 n (by omega)]
    have key : F_X9_findBeds_35 N (F_X9_findBeds_19 N fu) N b s (Int32.ofNat n) (Int32.ofNat (q_pop n)) 0 0 (axM Z f) = F_X9_findBeds_91 N (F_X9_findBeds_19 N fu) b s (Int32.ofNat n) (Int32.ofNat (q_bVV ψ s nc nm n)) (axM Z f) := by
      by_cases hp : q_pop n < nm
      · have h35 := qc_beds35 (N := N) h hc hm (show n < 2 ^ nc by omega) hp (fun U h1 h2 => hv U (by omega) h2) (F_X9_findBeds_19 N fu) nc 0 N 0 (by omega) (by omega) (by omega)
        rw [show F_X9_findBeds_35 N (F_X9_findBeds_19 N fu) N b s (Int32.ofNat n) (Int32.ofNat (q_pop n)) 0 0 (axM Z f) = _ from h35]
        unfold q_bVV
        rw [if_pos hp, Nat.zero_max]
        obtain ⟨k, hk⟩ : ∃ k, nm - q_pop n = k + 1 := ⟨nm - q_pop n - 1, by omega⟩
        rw [hk, q_bV_s, Nat.add_sub_cancel]
      · obtain ⟨M, hM⟩ : ∃ q, N = q + 1 := ⟨N - 1, by omega⟩
        have e4 : f fa 4 = Int32.ofNat nc := by rw [← hc, etc, ← enc]; exact rdF_0 h.2.1 (by omega)
        have e5 : f fa 5 = Int32.ofNat nm := by rw [← hm, etm, ← enm]; exact rdF_0 h.2.1 (by omega)
        have e : F_X9_findBeds_35 N (F_X9_findBeds_19 N fu) (M + 1) b s (Int32.ofNat n) (Int32.ofNat (q_pop n)) 0 0 (axM Z f) = F_X9_findBeds_35b N (F_X9_findBeds_19 N fu) (F_X9_findBeds_35 N (F_X9_findBeds_19 N fu) M) b s (Int32.ofNat n) (Int32.ofNat (q_pop n)) 0 0 (axM Z f) := rfl
        rw [← hM] at e
        have hp8 : q_pop n ≤ 8 := by
          have hb : ∀ x : Bool, x.toNat ≤ 1 := fun x => by cases x <;> decide
          have := hb (n.testBit 0)
          have := hb (n.testBit 1)
          have := hb (n.testBit 2)
          have := hb (n.testBit 3)
          have := hb (n.testBit 4)
          have := hb (n.testBit 5)
          have := hb (n.testBit 6)
          have := hb (n.testBit 7)
          unfold q_pop
          omega
        rw [e]
        unfold F_X9_findBeds_35b q_bVV
        rw [m_gr h0 pf, m_gi hfa.1, e4, m_gr h0 pf, m_gi hfa.1, e5, if_neg hp]
        by_cases c : Int32.ofNat nc ≤ 0
        · rw [if_pos c]
          rfl
        · rw [if_neg c, if_pos (qi_ge (by omega) (by omega))]
          rfl
    rw [key]
    unfold F_X9_findBeds_91
    rw [m_gr h0 h.1.slf.1, m_putn N h.1.slf.2 (show n < 256 by omega) (by omega), axBV_s]
    have F1 : ∀ x, ¬ scC b x → ax2 f (b + 152) n (Int32.ofNat (q_bVV ψ s nc nm n)) x = f x := fun x hx => ax2_n _ _ _ _ (by unfold scC at hx; omega)
    obtain ⟨f2, e2, v2, fr2⟩ := ih fu (ax2 f (b + 152) n (Int32.ofNat (q_bVV ψ s nc nm n))) (by omega) (by omega) (h.sc F1) (fun U h1 h2 => by
      rw [ax2_a]
      by_cases e : U = n
      · rw [if_pos e, e]
      · rw [if_neg e]
        exact hv U (by omega) h2)
    exact ⟨f2, e2, v2, fun x hx => by rw [fr2 x hx, F1 x hx]⟩
theorem qc_least {nc nm T k : Nat} {s : Int32} (h : HC Z b fa sf la sl bo sb f ψ l r) (hc : (ψ 0 4).toNatClampNeg = nc) (hm : (ψ 0 5).toNatClampNeg = nm) (hT : T < 2 ^ nc) (hp : q_pop T = k) (hk : k < nm) (hv : ∀ U, U < 2 ^ nc → f (b + 152) U = Int32.ofNat (q_bVV ψ s nc nm U)) {z : Nat × Nat} (hz : z.1 = q_bVV ψ s nc nm T) : ∀ (n c fu : Nat), c + n = nc → n < fu → q_bw T (q_bx ψ s nc (nm - k - 1) k T) n c = some z → F_X9_leastBed_3 N fu b (Int32.ofNat k) (Int32.ofNat T) s (Int32.ofNat c) (axM Z f) = some (Int32.ofNat z.2, axM Z f) := by
  have h0 := h.1.1.1
  have pf := h.1.1.2.1
  have hfa := h.1.2.1.1
  obtain ⟨-, ⟨nc', c8, enc, etc⟩, ⟨nm', m8, enm, etm⟩, -⟩ := q_fw_n h.2.2.1
  have e4 : f fa 4 = Int32.ofNat nc := by rw [← hc, etc, ← enc]; exact rdF_0 h.2.1 (by omega)
  have h256 := (q_tab4 nc (by omega)).1
  intro n
  induction n with
  | zero =>
    intro c fu hcn hfu hw
    cases hw
  | succ n ih =>
    intro c fu hcn hfu hw
    obtain ⟨fu, rfl⟩ : ∃ q, fu = q + 1 := ⟨fu - 1, by omega⟩
    show F_X9_leastBed_3b N (F_X9_leastBed_3 N fu) b (Int32.ofNat k) (Int32.ofNat T) s (Int32.ofNat c) (axM Z f) = _
    unfold F_X9_leastBed_3b F_X9_leastBed_47
    rw [m_gr h0 pf, m_gi hfa.1, e4, if_neg (qi_nge (by omega) (by omega))]
    cases hb : T.testBit c
    · have hor := q_orlt (show nc < 9 by omega) hT (show c < nc by omega)
      have hlt := ((q_tab2 T (by omega) c (by omega)).2.2 hb).2
      have hx := q_bx_le ψ s nc (nm - k - 1) k T c
      have hz9 : z.1 ≤ 9 := by
        rw [(q_bw_in _ _ _ _ _ hw).2.2.2]
        have := q_bx_le ψ s nc (nm - k - 1) k T z.2
        omega
      have hVx := q_bVV_x ψ s (nc := nc) (nm := nm) (show T < 256 by omega) (show c < 8 by omega) hb (by omega)
      rw [hp] at hVx
      rw [if_pos (q_bit0 (by omega) (by omega) hb), m_is h0, qc_sleepWith h (by omega) (by omega) (by omega) (by omega) (hv _ hor), axB_s, hVx, m_gr h0 h.1.slf.1, m_atn N h.1.slf.2 (show T < 256 by omega) (by omega), hv T hT, axB_s, ← hz, qi_s]
      show (if Int32.ofNat (q_bx ψ s nc (nm - k - 1) k T c) = Int32.ofNat z.1 then _ else _) = _
      rw [q_bw_f _ _ hb] at hw
      cases hr : q_bw T (q_bx ψ s nc (nm - k - 1) k T) n (c + 1) with
      | none =>
        rw [hr] at hw
        have hw : some (q_bx ψ s nc (nm - k - 1) k T c, c) = some z := hw
        cases hw
        rw [if_pos rfl]
      | some y =>
        rw [hr] at hw
        have hw : (if q_bx ψ s nc (nm - k - 1) k T c < y.1 then some y else some (q_bx ψ s nc (nm - k - 1) k T c, c)) = some z := hw
        by_cases cx : q_bx ψ s nc (nm - k - 1) k T c < y.1
        · rw [if_pos cx] at hw
          cases hw
          rw [if_neg (qi_ne (by omega) (by omega) (by omega))]
          exact ih (c + 1) fu (by omega) (by omega) hr
        · rw [if_neg cx] at hw
          cases hw
          rw [if_pos rfl]
    · rw [if_neg (by rw [q_bit1 (by omega) (by omega) hb]; decide), qi_s]
      rw [q_bw_t _ _ hb] at hw
      exact ih (c + 1) fu (by omega) (by omega) hw
theorem qc_beds112 (hN : 2000 < N) {nc nm : Nat} {s : Int32} (hc : (ψ 0 4).toNatClampNeg = nc) (hm : (ψ 0 5).toNatClampNeg = nm) (hmc : nm ≤ nc) : ∀ (n k T fu : Nat) (f : Nat → Nat → Int32), k + n = nm → n < fu → HC Z b fa sf la sl bo sb f ψ l r → T < 2 ^ nc → q_pop T = k → (∀ U, U < 2 ^ nc → f (b + 152) U = Int32.ofNat (q_bVV ψ s nc nm U)) → ∃ f', F_X9_findBeds_112 N fu b s (Int32.ofNat T) (Int32.ofNat k) (axM Z f) = some (axM Z f') ∧ (∀ i, i < nm → f' (b + 153) i = if i < k then f (b + 153) i else Int32.ofNat (q_bL ψ s nc n k T i)) ∧ f' (b + 152) = f (b + 152) ∧ ∀ x, ¬ scC b x → f' x = f x := by
  intro n
  induction n with
  | zero =>
    intro k T fu f hk hfu h hT hp hv
    obtain ⟨fu, rfl⟩ : ∃ q, fu = q + 1 := ⟨fu - 1, by omega⟩
    show ∃ f', F_X9_findBeds_112b N (F_X9_findBeds_112 N fu) b s (Int32.ofNat T) (Int32.ofNat k) (axM Z f) = _ ∧ _
    have h0 := h.1.1.1
    have pf := h.1.1.2.1
    have hfa := h.1.2.1.1
    obtain ⟨-, -, ⟨nm', m8, enm, etm⟩, -⟩ := q_fw_n h.2.2.1
    have e5 : f fa 5 = Int32.ofNat nm := by rw [← hm, etm, ← enm]; exact rdF_0 h.2.1 (by omega)
    unfold F_X9_findBeds_112b
    rw [m_gr h0 pf, m_gi hfa.1, e5, if_pos (qi_ge (by omega) (by omega))]
    exact ⟨f, rfl, fun i hi => by rw [if_pos (by omega)], rfl, fun _ _ => rfl⟩
  | succ n ih =>
    intro k T fu f hk hfu h hT hp hv
    obtain ⟨fu, rfl⟩ : ∃ q, fu = q + 1 := ⟨fu - 1, by omega⟩
    show ∃ f', F_X9_findBeds_112b N (F_X9_findBeds_112 N fu) b s (Int32.ofNat T) (Int32.ofNat k) (axM Z f) = _ ∧ _
    have h0 := h.1.1.1
    have pf := h.1.1.2.1
    have hfa := h.1.2.1.1
    obtain ⟨-, ⟨nc', c8, enc, etc⟩, ⟨nm', m8, enm, etm⟩, -⟩ := q_fw_n h.2.2.1
    have e5 : f fa 5 = Int32.ofNat nm := by rw [← hm, etm, ← enm]; exact rdF_0 h.2.1 (by omega)
    have h256 := (q_tab4 nc (by omega)).1
    obtain ⟨z, hz⟩ := q_bw_some (q_bx ψ s nc n k T) (show nc < 9 by omega) hT hp (by omega)
    obtain ⟨z1, z2, z3, z4⟩ := q_bw_in _ _ _ _ _ hz
    have hVV : z.1 = q_bVV ψ s nc nm T := by
      unfold q_bVV
      rw [hp, if_pos (by omega), show nm - k = n + 1 by omega, q_bV_s, hz]
      rfl
    have hl := qc_least (N := N) (s := s) h hc hm hT hp (by omega) hv hVV nc 0 N (by omega) (by omega) (by rw [show nm - k - 1 = n by omega]; exact hz)
    have hor := q_orlt (show nc < 9 by omega) hT (show z.2 < nc by omega)
    have ht2 := (q_tab2 T (by omega) z.2 (by omega)).2
    unfold F_X9_findBeds_112b F_X9_leastBed
    rw [m_gr h0 pf, m_gi hfa.1, e5, if_neg (qi_nge (by omega) (by omega)), m_is h0, show F_X9_leastBed_3 N N b (Int32.ofNat k) (Int32.ofNat T) s 0 (axM Z f) = _ from hl, axB_s, m_gr h0 h.1.bed.1, m_putn N h.1.bed.2 (show k < 8 by omega) (by omega), axBV_s, ht2.1, qi_s]
    have F1 : ∀ x, ¬ scC b x → ax2 f (b + 153) k (Int32.ofNat z.2) x = f x := fun x hx => ax2_n _ _ _ _ (by unfold scC at hx; omega)
    obtain ⟨f2, e2, v2, w2, fr2⟩ := ih (k + 1) (T ||| 2 ^ z.2) fu (ax2 f (b + 153) k (Int32.ofNat z.2)) (by omega) (by omega) (h.sc F1) hor (by rw [(ht2.2 z3).1, hp]) (fun U hU => by rw [ax2_n _ _ _ _ (by omega)]; exact hv U hU)
    refine ⟨f2, e2, fun i hi => ?_, by rw [w2, ax2_n _ _ _ _ (by omega)], fun x hx => by rw [fr2 x hx, F1 x hx]⟩
    rw [v2 i hi, ax2_a, q_bL_s, hz]
    show _ = if i < k then f (b + 153) i else Int32.ofNat (if i = k then z.2 else q_bL ψ s nc n (k + 1) (T ||| 2 ^ z.2) i)
    by_cases c1 : i < k
    · rw [if_pos c1, if_pos (by omega), if_neg (by omega)]
    · rw [if_neg c1]
      by_cases c2 : i = k
      · rw [if_pos c2, if_pos (by omega), if_pos c2]
      · rw [if_neg c2, if_neg (by omega), if_neg c2]
theorem qc_findBeds (hN : 2000 < N) (h : HC Z b fa sf la sl bo sb f ψ l r) (s : Int32) : ∃ f', F_X9_findBeds N b s (axM Z f) = some (axM Z f') ∧ f' (b + 152) 0 = Int32.ofNat (q_bV ψ s (ψ 0 4).toNatClampNeg (ψ 0 5).toNatClampNeg 0 0) ∧ (∀ i, i < (ψ 0 5).toNatClampNeg → f' (b + 153) i = Int32.ofNat (q_bL ψ s (ψ 0 4).toNatClampNeg (ψ 0 5).toNatClampNeg 0 0 i)) ∧ ∀ x, ¬ scC b x → f' x = f x := by
  have h0 := h.1.1.1
  have pf := h.1.1.2.1
  have hfa := h.1.2.1.1
  have hw := h.2.2.1
  obtain ⟨-, ⟨nc, c8, enc, etc⟩, ⟨nm, m8, enm, etm⟩, -⟩ := q_fw_n h.2.2.1
  have hmc : nm ≤ nc := by
    obtain ⟨⟨nv, nc', nm', nh, e1, e2, e3, e4, b1, b2, b3, b4, -⟩, -⟩ := hw
    rw [e2, qi_tn (by omega)] at etc
    rw [e3, qi_tn (by omega)] at etm
    omega
  have e4 : f fa 4 = Int32.ofNat nc := by rw [← enc]; exact rdF_0 h.2.1 (by omega)
  have h256 := q_tab4 nc (by omega)
  unfold F_X9_findBeds
  rw [m_gr h0 pf, m_gi hfa.1, e4, m_min, axB_s, show q_min (Int32.ofNat nc) 8 = Int32.ofNat nc by rw [show q_min (Int32.ofNat nc) 8 = Int32.ofNat (min nc 8) from q_minn (j := 8) (by omega) (by omega), Nat.min_eq_left c8], h256.2.2]
  obtain ⟨f1, e1, v1, fr1⟩ := qc_beds19 (N := N) (s := s) hN etc etm (2 ^ nc) N f (Nat.le_refl _) (by omega) h (fun U h1 h2 => absurd h2 (by omega))
  rw [e1]
  obtain ⟨f2, e2, v2, w2, fr2⟩ := qc_beds112 (N := N) (s := s) hN etc etm hmc nm 0 0 N f1 (by omega) (by omega) (h.sc fr1) (by omega) rfl v1
  refine ⟨f2, e2, ?_, fun i hi => ?_, fun x hx => by rw [fr2 x hx, fr1 x hx]⟩
  · rw [w2, v1 0 (by omega), etc, etm]
    unfold q_bVV
    rw [show q_pop 0 = 0 from rfl, Nat.sub_zero]
    by_cases c : 0 < nm
    · rw [if_pos c]
    · rw [if_neg c, show nm = 0 by omega]
      rfl
  · rw [v2 i (by omega), if_neg (by omega), etc, etm]
theorem qc_beds (hN : 2000 < N) (h : HC Z b fa sf la sl bo sb f ψ l r) (s : Int32) : ((0 ≤ s ∧ s ≤ 999) → CQz Z b f (F_X9_beds N b s (axM Z f)) (Int32.ofNat (q_bV ψ s (ψ 0 4).toNatClampNeg (ψ 0 5).toNatClampNeg 0 0))) ∧ (¬ (0 ≤ s ∧ s ≤ 999) → CTz Z b f (F_X9_beds N b s (axM Z f)) q_iae 15) := by
  have h0 := h.1.1.1
  unfold F_X9_beds F_X9_beds_16 F_X9_beds_17
  simp only [qc_needT h0, qc_needO h0, q_rg rfl]
  refine ⟨fun c => ?_, fun c => ?_⟩
  · obtain ⟨f1, e1, v1, w1, fr1⟩ := qc_findBeds hN h s
    rw [if_pos c, m_is h0, e1, axBV_s, m_gr h0 h.1.slf.1, show F_X9_at N (b + 152) 0 (axM Z f1) = some (f1 (b + 152) 0, axM Z f1) from m_atn (j := 0) N h.1.slf.2 (by omega) (by omega), axB_s, v1]
    exact CQz.mk f1 rfl fr1
  · rw [if_neg c]
    exact CTz.mk rfl
theorem qc_bed (hN : 2000 < N) (h : HC Z b fa sf la sl bo sb f ψ l r) (x s : Int32) : (∀ k, k < (ψ 0 5).toNatClampNeg → x = Int32.ofNat k → (0 ≤ s ∧ s ≤ 999) → CQz Z b f (F_X9_bed N b x s (axM Z f)) (Int32.ofNat (q_bL ψ s (ψ 0 4).toNatClampNeg (ψ 0 5).toNatClampNeg 0 0 k))) ∧ (¬ (0 ≤ x ∧ x < ψ 0 5) → CTz Z b f (F_X9_bed N b x s (axM Z f)) q_nse 14) ∧ ((0 ≤ x ∧ x < ψ 0 5) → ¬ (0 ≤ s ∧ s ≤ 999) → CTz Z b f (F_X9_bed N b x s (axM Z f)) q_iae 15) := by
  have h0 := h.1.1.1
  have pf := h.1.1.2.1
  have hfa := h.1.2.1.1
  obtain ⟨nm, n8, en, et⟩ := (q_fw_n h.2.2.1).2.2.1
  have e5 : f fa 5 = ψ 0 5 := rdF_0 h.2.1 (by omega)
  unfold F_X9_bed F_X9_bed_28 F_X9_bed_29
  rw [m_gr h0 pf, m_gi hfa.1, e5, m_is h0]
  refine ⟨fun k hk ex c => ?_, fun c => ?_, fun c1 c2 => ?_⟩
  · subst ex
    rw [qc_one1 N (qi_ge (i := 0) (by omega) (by omega)) (by rw [en]; exact qi_gt (by omega) (by omega))]
    simp only [qc_needT h0, qc_needO h0, q_rg rfl]
    obtain ⟨f1, e1, v1, w1, fr1⟩ := qc_findBeds hN h s
    rw [if_pos c, m_is h0, e1, axBV_s, m_gr h0 h.1.bed.1, m_atn N h.1.bed.2 (show k < 8 by omega) (by omega), axB_s, w1 k hk]
    exact CQz.mk f1 rfl fr1
  · rw [qc_one0 N h0 c]
    exact CTz.mk rfl
  · rw [qc_one1 N c1.1 c1.2]
    simp only [qc_needT h0, qc_needO h0, q_rg rfl]
    rw [if_neg c2]
    exact CTz.mk rfl
end
