/-! the run of a work, the model's -/
def MRr (Z : AxS) (m : Nat) (ψ : QF) (l : QL) (L : List QE) (σ : QS4) (g : Nat → Nat → Int32) : Prop := HM Z m g ψ l σ.1 ∧ SMl g m L ∧ g m 36 = Int32.ofNat σ.2.1 ∧ g m 37 = σ.2.2.1 ∧ g m 33 = σ.2.2.2
def MRf (m : Nat) (g g' : Nat → Nat → Int32) : Prop := (∀ z, ¬ (z = m ∨ z = m + 357 ∨ z = m + 358 ∨ z = m + 440) → g' z = g z) ∧ ∀ k, k ≠ 33 → k ≠ 36 → k ≠ 37 → g' m k = g m k
theorem MRf.rf (m : Nat) (g : Nat → Nat → Int32) : MRf m g g := ⟨fun _ _ => rfl, fun _ _ _ _ => rfl⟩
theorem MRf.tr {m : Nat} {f g h : Nat → Nat → Int32} (h1 : MRf m f g) (h2 : MRf m g h) : MRf m f h := ⟨fun z c => by rw [h2.1 z c, h1.1 z c], fun k a b c => by rw [h2.2 k a b c, h1.2 k a b c]⟩
theorem MRf.w (m k : Nat) (g : Nat → Nat → Int32) (v : Int32) (hk : k = 33 ∨ k = 36 ∨ k = 37) : MRf m g (ax2 g m k v) := ⟨fun z c => ax2_n _ _ _ _ (by omega), fun j _ _ _ => ax2_j _ _ _ _ _ (by omega)⟩
theorem SMl.kp {m : Nat} {g g' : Nat → Nat → Int32} {L : List QE} (h : SMl g m L) (hL : L.length ≤ 80) (h26 : g' m 26 = g m 26) (e : ∀ i, i < 80 → g' (m + 360 + i) = g (m + 360 + i)) : SMl g' m L := by
  refine ⟨by rw [h26, h.1], fun i q hq => ?_⟩
  have := (List.getElem?_eq_some_iff.mp hq).1
  have hh := h.2 i q hq
  unfold SEm at hh ⊢
  rw [e i (by omega)]
  exact hh
theorem HM.kp {Z : AxS} {m : Nat} {g g' : Nat → Nat → Int32} {ψ : QF} {l : QL} {r : QR} (h : HM Z m g ψ l r) {k : Nat} {v : Int32} (hk : k ≠ 17) (e : g' = ax2 g m k v) : HM Z m g' ψ l r := by
  subst e
  exact h.x (ax2_j _ _ _ _ _ (by omega)) fun x hx => ax2_n _ _ _ _ (by omega)
def RUm (ψ : QF) (l : QL) (L : List QE) (lo hi op : Nat) (σ τ : QS4) : Prop := ∀ (Z : AxS) (m N fu d : Nat) (g : Nat → Nat → Int32), 2000 < N → hi - lo < fu → 6 ≤ d + op → MRr Z m ψ l L σ g → ∃ g', F_X10_goes_2 N (GG_X10_goes N d) fu m (Int32.ofNat hi) (Int32.ofNat lo) (axM Z g) = some (axM Z g') ∧ MRr Z m ψ l L τ g' ∧ MRf m g g'
def RPm (ψ : QF) (l : QL) (L : List QE) (lo hi op times k : Nat) (σ τ : QS4) : Prop := ∀ (Z : AxS) (m N fu fu2 d : Nat) (g : Nat → Nat → Int32), 2000 < N → hi - lo ≤ fu → times - k < fu2 → 6 ≤ d + op → MRr Z m ψ l L σ g → ∃ g', F_X10_goes_43 N (GG_X10_goes N d) (F_X10_goes_2 N (GG_X10_goes N d) fu) fu2 m (Int32.ofNat hi) (Int32.ofNat lo) (Int32.ofNat k) (axM Z g) = some (axM Z g') ∧ MRr Z m ψ l L τ g' ∧ MRf m g g'
section
variable {ψ : QF} {l : QL} {L : List QE} {lo hi op times k e : Nat} {σ τ ρ : QS4} {q : QE}
theorem RUm.nil (hh : hi < 2000) : RUm ψ l L hi hi op σ σ := by
  intro Z m N fu d g hN hfu hd hf
  obtain ⟨fu, rfl⟩ : ∃ q, fu = q + 1 := ⟨fu - 1, by omega⟩
  show ∃ f', F_X10_goes_2b N (GG_X10_goes N d) (F_X10_goes_2 N (GG_X10_goes N d) fu) m _ _ (axM Z g) = _ ∧ _
  unfold F_X10_goes_2b
  rw [if_pos (Int32.le_refl _)]
  exact ⟨g, rfl, hf, MRf.rf _ _⟩
theorem RUm.full (hh : lo < hi) (hi9 : hi < 2000) (hb : 200 ≤ σ.2.1) (hb2 : σ.2.1 ≤ 200) : RUm ψ l L lo hi op σ σ := by
  intro Z m N fu d g hN hfu hd hf
  obtain ⟨fu, rfl⟩ : ∃ q, fu = q + 1 := ⟨fu - 1, by omega⟩
  have h0 := hf.1.1.1
  show ∃ f', F_X10_goes_2b N (GG_X10_goes N d) (F_X10_goes_2 N (GG_X10_goes N d) fu) m _ _ (axM Z g) = _ ∧ _
  unfold F_X10_goes_2b
  rw [if_neg (qi_nge hh (by omega)), m_gi h0, hf.2.2.1, if_pos (show (200 : Int32) ≤ Int32.ofNat σ.2.1 from qi_ge (i := 200) hb (by omega))]
  exact ⟨g, rfl, hf, MRf.rf _ _⟩
theorem RUm.nx {Z : AxS} {m N fu d : Nat} {g : Nat → Nat → Int32} (h : RUm ψ l L e hi op σ τ) (hL : L.length ≤ 80) (hq : L[lo]? = some q) (he : q.2.2.2 = some e) (hN : 2000 < N) (hfu : hi - e < fu) (hd : 6 ≤ d + op) (hf : MRr Z m ψ l L σ g) (kr : Nat → Int32 → Int32 → AxS → Option (AxS)) : ∃ g', F_X10_goes_144 N kr (F_X10_goes_2 N (GG_X10_goes N d) fu) m (Int32.ofNat hi) (Int32.ofNat lo) (axM Z g) = some (axM Z g') ∧ MRr Z m ψ l L τ g' ∧ MRf m g g' := by
  have hm := hf.1.1
  have h0 := hm.1
  have p25 : axP Z m 25 = some (m + 359) := hm.2.1 25 359 rfl
  have s359 : axL Z (m + 359) = some (3, 80) := hm.2.2.1 359 _ rfl
  have hlo := (List.getElem?_eq_some_iff.mp hq).1
  obtain ⟨pr, sr⟩ : axP Z (m + 359) lo = some (m + 360 + lo) ∧ axL Z (m + 360 + lo) = some (1, 4) := hm.2.2.2 359 80 4 rfl lo (by omega)
  unfold F_X10_goes_144
  rw [m_gr h0 p25, m_ldrn (t := 0) s359 (by omega) (show lo < 80 by omega) (by omega) pr, m_ldk_3 sr (by omega), (hf.2.1.2 lo q hq).2.2.2 e he]
  exact h Z m N fu d g hN hfu hd hf
theorem RUm.one (hL : L.length ≤ 80) (hq : L[lo]? = some q) (h6 : q.1 < 6) (he : q.2.2.2 = some (lo + 1)) (hv : q_evl ψ q) (hlo : lo < hi) (hhi : hi ≤ 150) (hb : σ.2.1 < 200) (h : RUm ψ l L (lo + 1) hi op (q_sgl ψ l q σ) τ) : RUm ψ l L lo hi op σ τ := by
  intro Z m N fu d g hN hfu hd hf
  obtain ⟨fu, rfl⟩ : ∃ q, fu = q + 1 := ⟨fu - 1, by omega⟩
  obtain ⟨hH, hS, h36, h37, h33⟩ := hf
  have hm := hH.1
  have h0 := hm.1
  have p25 : axP Z m 25 = some (m + 359) := hm.2.1 25 359 rfl
  have s359 : axL Z (m + 359) = some (3, 80) := hm.2.2.1 359 _ rfl
  have p27 : axP Z m 27 = some (m + 440) := hm.2.1 27 440 rfl
  have hl9 := (List.getElem?_eq_some_iff.mp hq).1
  obtain ⟨pr, sr⟩ : axP Z (m + 359) lo = some (m + 360 + lo) ∧ axL Z (m + 360 + lo) = some (1, 4) := hm.2.2.2 359 80 4 rfl lo (by omega)
  have hE := hS.2 lo q hq
  have H1 : HM Z m (ax2 g m 36 (Int32.ofNat (σ.2.1 + 1))) ψ l σ.1 := hH.kp (by omega) rfl
  have E1 : SEm (ax2 g m 36 (Int32.ofNat (σ.2.1 + 1))) m lo q := by
    unfold SEm at hE ⊢
    rw [ax2_n _ _ _ _ (by omega)]
    exact hE
  obtain ⟨g2, e2, G2, r2⟩ := qm_dos hN H1 hv h6 (show lo < 80 by omega) E1
  have S2 : SMl g2 m L := hS.kp hL (by rw [r2 _ (by omega), ax2_j _ _ _ _ _ (by omega)]) fun i hi => by rw [r2 _ (by omega), ax2_n _ _ _ _ (by omega)]
  have k36 : g2 m 36 = Int32.ofNat (σ.2.1 + 1) := by rw [r2 _ (by omega), ax2_k]
  have k37 : g2 m 37 = σ.2.2.1 := by rw [r2 _ (by omega), ax2_j _ _ _ _ _ (by omega), h37]
  have k33 : g2 m 33 = σ.2.2.2 := by rw [r2 _ (by omega), ax2_j _ _ _ _ _ (by omega), h33]
  have fr2 : MRf m g g2 := (MRf.w m 36 g _ (by omega)).tr ⟨fun z c => r2 z (by omega), fun k _ _ _ => by rw [r2 m (by omega)]⟩
  show ∃ f', F_X10_goes_2b N (GG_X10_goes N d) (F_X10_goes_2 N (GG_X10_goes N d) fu) m _ _ (axM Z g) = _ ∧ _
  unfold F_X10_goes_2b
  rw [if_neg (qi_nge hlo (by omega)), m_gi h0, h36, if_neg (show ¬ (200 : Int32) ≤ Int32.ofNat σ.2.1 from qi_nge (i := 200) hb (by omega)), m_gi h0, h36, m_pi h0, qi_s, m_gr h0 p25, m_ldrn (t := 0) s359 (by omega) (show lo < 80 by omega) (by omega) pr, m_ldk_0 sr (by omega), E1.1, if_neg (show ¬ Int32.ofNat q.1 = 6 from qi_ne (j := 6) (by omega) (by omega) (by omega)), m_gr h0 p27, m_gr h0 p25, m_ldrn (t := 0) s359 (by omega) (show lo < 80 by omega) (by omega) pr, m_is h0, e2, axB_s, m_gi h0, k37]
  unfold F_X10_goes_121 F_X10_goes_140
  have fin : ∀ u v, u = (if (q_dos ψ l q σ.1).1 = true then (1 : Int32) else 0) → v = (if (q_dos ψ l q σ.1).1 = true then (0 : Int32) else 1) → ∃ f', F_X10_goes_144 N (GG_X10_goes N d) (F_X10_goes_2 N (GG_X10_goes N d) fu) m (Int32.ofNat hi) (Int32.ofNat lo) (axM Z (ax2 (ax2 g2 m 37 (σ.2.2.1 + u)) m 33 (σ.2.2.2 + v))) = some (axM Z f') ∧ MRr Z m ψ l L τ f' ∧ MRf m g f' := fun u v hu hv => by
    subst hu
    subst hv
    have G : MRr Z m ψ l L (q_sgl ψ l q σ) (ax2 (ax2 g2 m 37 (σ.2.2.1 + (if (q_dos ψ l q σ.1).1 = true then (1 : Int32) else 0))) m 33 (σ.2.2.2 + (if (q_dos ψ l q σ.1).1 = true then (0 : Int32) else 1))) := ⟨(G2.kp (k := 37) (by omega) rfl).kp (k := 33) (by omega) rfl, S2.kp hL (by rw [ax2_j _ _ _ _ _ (by omega), ax2_j _ _ _ _ _ (by omega)]) fun i hi => by rw [ax2_n _ _ _ _ (by omega), ax2_n _ _ _ _ (by omega)], by rw [ax2_j _ _ _ _ _ (by omega), ax2_j _ _ _ _ _ (by omega), k36]; rfl, by rw [ax2_j _ _ _ _ _ (by omega), ax2_k]; rfl, ax2_k _ _ _ _⟩
    obtain ⟨g4, e4, G4, r4⟩ := h.nx (fu := fu) (d := d) hL hq he hN (by omega) hd G (GG_X10_goes N d)
    exact ⟨g4, e4, G4, ((fr2.tr (MRf.w m 37 g2 _ (by omega))).tr (MRf.w m 33 _ _ (by omega))).tr r4⟩
  by_cases cd : (q_dos ψ l q σ.1).1 = true
  · rw [if_pos cd, if_neg (show ¬ (1 : Int32) = 0 by decide), m_pi h0, m_gi h0, if_neg (show ¬ (1 : Int32) = 0 by decide), ax2_j _ _ _ _ _ (by omega), k33, m_pi h0]
    exact fin 1 0 (by rw [if_pos cd]) (by rw [if_pos cd])
  · rw [if_neg cd, if_pos rfl, m_pi h0, m_gi h0, if_pos rfl, ax2_j _ _ _ _ _ (by omega), k33, m_pi h0]
    exact fin 0 1 (by rw [if_neg cd]) (by rw [if_neg cd])
theorem RPm.last (hL : L.length ≤ 80) (hq : L[lo]? = some q) (h6 : q.1 = 6) (he : q.2.2.2 = some e) (ht : q.2.1 = times) (ht9 : times ≤ 30) (hle : lo < e) (hhi : e ≤ hi) (hb : σ.2.1 ≤ 200) (hk : k ≤ times) (hc : k = times ∨ 200 ≤ σ.2.1) (h : RUm ψ l L e hi op σ τ) : RPm ψ l L lo hi op times k σ τ := by
  intro Z m N fu fu2 d g hN hfu hfu2 hd hf
  obtain ⟨fu2, rfl⟩ : ∃ q, fu2 = q + 1 := ⟨fu2 - 1, by omega⟩
  have hm := hf.1.1
  have h0 := hm.1
  have p25 : axP Z m 25 = some (m + 359) := hm.2.1 25 359 rfl
  have s359 : axL Z (m + 359) = some (3, 80) := hm.2.2.1 359 _ rfl
  have hl9 := (List.getElem?_eq_some_iff.mp hq).1
  obtain ⟨pr, sr⟩ : axP Z (m + 359) lo = some (m + 360 + lo) ∧ axL Z (m + 360 + lo) = some (1, 4) := hm.2.2.2 359 80 4 rfl lo (by omega)
  have hE := hf.2.1.2 lo q hq
  have G := h.nx (fu := fu) (d := d) hL hq he hN (by omega) hd hf (GG_X10_goes N d)
  show ∃ f', F_X10_goes_43b N (GG_X10_goes N d) (F_X10_goes_2 N (GG_X10_goes N d) fu) (F_X10_goes_43 N (GG_X10_goes N d) (F_X10_goes_2 N (GG_X10_goes N d) fu) fu2) m _ _ _ (axM Z g) = _ ∧ _
  unfold F_X10_goes_43b F_X10_goes_87
  rw [m_gr h0 p25, m_ldrn (t := 0) s359 (by omega) (show lo < 80 by omega) (by omega) pr, m_ldk_1 sr (by omega), hE.2.1 (by omega) (by omega), ht]
  by_cases c : k = times
  · rw [if_pos (show Int32.ofNat times ≤ Int32.ofNat k from qi_ge (by omega) (by omega))]
    exact G
  · rw [if_neg (show ¬ Int32.ofNat times ≤ Int32.ofNat k from qi_nge (by omega) (by omega)), m_gi h0, hf.2.2.1, if_pos (show (200 : Int32) ≤ Int32.ofNat σ.2.1 from qi_ge (i := 200) (by omega) (by omega))]
    exact G
theorem RPm.go (hL : L.length ≤ 80) (hq : L[lo]? = some q) (h6 : q.1 = 6) (he : q.2.2.2 = some e) (ht : q.2.1 = times) (ht9 : times ≤ 30) (ho : op < 6) (hle : lo < e) (he9 : e ≤ 150) (hk : k < times) (hb : σ.2.1 < 200) (h1 : RUm ψ l L (lo + 1) e (op + 1) σ ρ) (h2 : RPm ψ l L lo hi op times (k + 1) ρ τ) : RPm ψ l L lo hi op times k σ τ := by
  intro Z m N fu fu2 d g hN hfu hfu2 hd hf
  obtain ⟨fu2, rfl⟩ : ∃ q, fu2 = q + 1 := ⟨fu2 - 1, by omega⟩
  have hm := hf.1.1
  have h0 := hm.1
  have p25 : axP Z m 25 = some (m + 359) := hm.2.1 25 359 rfl
  have s359 : axL Z (m + 359) = some (3, 80) := hm.2.2.1 359 _ rfl
  have hl9 := (List.getElem?_eq_some_iff.mp hq).1
  obtain ⟨pr, sr⟩ : axP Z (m + 359) lo = some (m + 360 + lo) ∧ axL Z (m + 360 + lo) = some (1, 4) := hm.2.2.2 359 80 4 rfl lo (by omega)
  have hE := hf.2.1.2 lo q hq
  show ∃ f', F_X10_goes_43b N (GG_X10_goes N d) (F_X10_goes_2 N (GG_X10_goes N d) fu) (F_X10_goes_43 N (GG_X10_goes N d) (F_X10_goes_2 N (GG_X10_goes N d) fu) fu2) m _ _ _ (axM Z g) = _ ∧ _
  unfold F_X10_goes_43b
  rw [m_gr h0 p25, m_ldrn (t := 0) s359 (by omega) (show lo < 80 by omega) (by omega) pr, m_ldk_1 sr (by omega), hE.2.1 (by omega) (by omega), ht, if_neg (show ¬ Int32.ofNat times ≤ Int32.ofNat k from qi_nge (by omega) (by omega)), m_gi h0, hf.2.2.1, if_neg (show ¬ (200 : Int32) ≤ Int32.ofNat σ.2.1 from qi_nge (i := 200) (by omega) (by omega)), m_gr h0 p25, m_ldrn (t := 0) s359 (by omega) (show lo < 80 by omega) (by omega) pr, m_ldk_3 sr (by omega), hE.2.2.2 e he, m_is h0, qi_s, qi_s]
  obtain ⟨d', rfl⟩ : ∃ q, d = q + 1 := ⟨d - 1, by omega⟩
  obtain ⟨g1, e1, G1, r1⟩ := h1 Z m N N d' g hN (by omega) (by omega) hf
  have e1' : GG_X10_goes N (d' + 1) m (Int32.ofNat (lo + 1)) (Int32.ofNat e) (axM Z g) = some (axM Z g1) := e1
  rw [e1', axBV_s]
  obtain ⟨g2, e2, G2, r2⟩ := h2 Z m N fu fu2 (d' + 1) g1 hN hfu (by omega) hd G1
  exact ⟨g2, e2, G2, r1.tr r2⟩
theorem RUm.rep (hL : L.length ≤ 80) (hq : L[lo]? = some q) (h6 : q.1 = 6) (h30 : q.2.1 ≤ 30) (hlo : lo < hi) (hhi : hi ≤ 150) (hb : σ.2.1 < 200) (h : RPm ψ l L lo hi op q.2.1 0 (q_s1 σ) τ) : RUm ψ l L lo hi op σ τ := by
  intro Z m N fu d g hN hfu hd hf
  obtain ⟨fu, rfl⟩ : ∃ q, fu = q + 1 := ⟨fu - 1, by omega⟩
  obtain ⟨hH, hS, h36, h37, h33⟩ := hf
  have hm := hH.1
  have h0 := hm.1
  have p25 : axP Z m 25 = some (m + 359) := hm.2.1 25 359 rfl
  have s359 : axL Z (m + 359) = some (3, 80) := hm.2.2.1 359 _ rfl
  have hl9 := (List.getElem?_eq_some_iff.mp hq).1
  obtain ⟨pr, sr⟩ : axP Z (m + 359) lo = some (m + 360 + lo) ∧ axL Z (m + 360 + lo) = some (1, 4) := hm.2.2.2 359 80 4 rfl lo (by omega)
  have hE := hS.2 lo q hq
  have E0 : ∀ v, ax2 g m 36 v (m + 360 + lo) 0 = Int32.ofNat q.1 := fun v => by rw [ax2_n _ _ _ _ (by omega)]; exact hE.1
  have G : MRr Z m ψ l L (q_s1 σ) (ax2 g m 36 (Int32.ofNat (σ.2.1 + 1))) := ⟨hH.kp (k := 36) (by omega) rfl, hS.kp hL (ax2_j _ _ _ _ _ (by omega)) fun i hi => ax2_n _ _ _ _ (by omega), ax2_k _ _ _ _, by rw [ax2_j _ _ _ _ _ (by omega), h37]; rfl, by rw [ax2_j _ _ _ _ _ (by omega), h33]; rfl⟩
  show ∃ f', F_X10_goes_2b N (GG_X10_goes N d) (F_X10_goes_2 N (GG_X10_goes N d) fu) m _ _ (axM Z g) = _ ∧ _
  unfold F_X10_goes_2b
  rw [if_neg (qi_nge hlo (by omega)), m_gi h0, h36, if_neg (show ¬ (200 : Int32) ≤ Int32.ofNat σ.2.1 from qi_nge (i := 200) hb (by omega)), m_gi h0, h36, m_pi h0, qi_s, m_gr h0 p25, m_ldrn (t := 0) s359 (by omega) (show lo < 80 by omega) (by omega) pr, m_ldk_0 sr (by omega), E0, if_pos (show Int32.ofNat q.1 = 6 by rw [h6]; rfl)]
  obtain ⟨g2, e2, G2, r2⟩ := h Z m N fu N d _ hN (by omega) (by omega) hd G
  exact ⟨g2, e2, G2, (MRf.w m 36 g _ (by omega)).tr r2⟩
end
