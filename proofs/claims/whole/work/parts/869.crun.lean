/-! the run of a work, the class's -/
abbrev QS4 : Type := QR × Nat × Int32 × Int32
/-- one step done: what it begins, what is done, what is refused -/
def q_sgl (ψ : QF) (l : QL) (q : QE) (σ : QS4) : QS4 := ((q_dos ψ l q σ.1).2, σ.2.1 + 1, σ.2.2.1 + (if (q_dos ψ l q σ.1).1 = true then 1 else 0), σ.2.2.2 + (if (q_dos ψ l q σ.1).1 = true then 0 else 1))
def q_s1 (σ : QS4) : QS4 := (σ.1, σ.2.1 + 1, σ.2.2.1, σ.2.2.2)
def q_oks (ψ : QF) (σ : QS4) : Prop := q_ok ψ 999 σ.1 ∧ σ.1 12 = 0 ∧ σ.2.1 ≤ 200
theorem HC.kp {Z : AxS} {b fa sf la sl bo sb : Nat} {f g : Nat → Nat → Int32} {ψ : QF} {l : QL} {r : QR} (h : HC Z b fa sf la sl bo sb f ψ l r) (e : ∀ x, x ≠ b → x ≠ b + 27 → g x = f x) : HC Z b fa sf la sl bo sb g ψ l r := by
  obtain ⟨hC, hF, hw, hl, hlw, hR, hok⟩ := h
  have d1 := hC.2.2.1
  have d2 := hC.2.2.2.1
  refine ⟨hC, ?_, hw, hl.e (e _ (by omega) (by omega)) (e _ (by omega) (by omega)), hlw, ?_, hok⟩
  · rw [← hF]
    exact rdF_e fun x p q => e x (by clear d2; omega) (by clear d2; omega)
  · rw [← hR]
    exact rdSt_e (e _ (by omega) (by omega)) (e _ (by omega) (by omega)) (e _ (by omega) (by omega))
def CRr (Z : AxS) (b fa sf la sl bo sb : Nat) (ψ : QF) (l : QL) (L : List QE) (σ : QS4) (f : Nat → Nat → Int32) : Prop := HC Z b fa sf la sl bo sb f ψ l σ.1 ∧ SCl f (b + 27) L ∧ f (b + 27) 4 = Int32.ofNat σ.2.1 ∧ f (b + 27) 5 = σ.2.2.1 ∧ f b 13 = σ.2.2.2
def CRf (b : Nat) (f f' : Nat → Nat → Int32) : Prop := (∀ z, ¬ (z = b ∨ z = b + 17 ∨ z = b + 18 ∨ z = b + 21 ∨ z = b + 22 ∨ z = b + 27 ∨ z = b + 31 ∨ z = b + 32 ∨ z = b + 33) → f' z = f z) ∧ ∀ k, k ≠ 13 → f' b k = f b k
theorem CRf.rf (b : Nat) (f : Nat → Nat → Int32) : CRf b f f := ⟨fun _ _ => rfl, fun _ _ => rfl⟩
theorem CRf.tr {b : Nat} {f g h : Nat → Nat → Int32} (h1 : CRf b f g) (h2 : CRf b g h) : CRf b f h := ⟨fun z c => by rw [h2.1 z c, h1.1 z c], fun k c => by rw [h2.2 k c, h1.2 k c]⟩
theorem CRf.c (b k : Nat) (f : Nat → Nat → Int32) (v : Int32) : CRf b f (ax2 f (b + 27) k v) := ⟨fun z c => ax2_n _ _ _ _ (by omega), fun k _ => by rw [ax2_n _ _ _ _ (by omega)]⟩
theorem CRf.r (b : Nat) (f : Nat → Nat → Int32) (v : Int32) : CRf b f (ax2 f b 13 v) := ⟨fun z c => ax2_n _ _ _ _ (by omega), fun k c => ax2_j _ _ _ _ _ c⟩
theorem SCl.kp {f g : Nat → Nat → Int32} {a : Nat} {L : List QE} (h : SCl f a L) (h3 : g a 3 = f a 3) (h1 : g (a + 1) = f (a + 1)) (h2 : g (a + 2) = f (a + 2)) (h4 : g (a + 3) = f (a + 3)) : SCl g a L := by
  unfold SCl SEc at h ⊢
  rw [h3, h1, h2, h4]
  exact h
/-- from lo to hi, the class's run leads from σ to τ -/
def RUc (ψ : QF) (l : QL) (L : List QE) (lo hi op : Nat) (σ τ : QS4) : Prop := ∀ (Z : AxS) (b fa sf la sl bo sb N fu d : Nat) (f : Nat → Nat → Int32), 2000 < N → hi - lo < fu → 6 ≤ d + op → CRr Z b fa sf la sl bo sb ψ l L σ f → ∃ f', F_X9_runSteps_10 N (GG_X9_runSteps N d) fu b (Int32.ofNat hi) (Int32.ofNat op) (Int32.ofNat lo) (axM Z f) = some (axM Z f') ∧ CRr Z b fa sf la sl bo sb ψ l L τ f' ∧ CRf b f f'
/-- an again at lo, from its k-th time on -/
def RPc (ψ : QF) (l : QL) (L : List QE) (lo hi op times k : Nat) (σ τ : QS4) : Prop := ∀ (Z : AxS) (b fa sf la sl bo sb N fu fu2 d : Nat) (f : Nat → Nat → Int32), 2000 < N → hi - lo ≤ fu → times - k < fu2 → 6 ≤ d + op → CRr Z b fa sf la sl bo sb ψ l L σ f → ∃ f', F_X9_runSteps_76 N (GG_X9_runSteps N d) (F_X9_runSteps_10 N (GG_X9_runSteps N d) fu) fu2 b (Int32.ofNat hi) (Int32.ofNat op) (Int32.ofNat lo) (Int32.ofNat times) (Int32.ofNat k) (axM Z f) = some (axM Z f') ∧ CRr Z b fa sf la sl bo sb ψ l L τ f' ∧ CRf b f f'
section
variable {ψ : QF} {l : QL} {L : List QE} {lo hi op times k e : Nat} {σ τ ρ : QS4} {q : QE}
theorem RUc.nil (hh : hi < 2000) : RUc ψ l L hi hi op σ σ := by
  intro Z b fa sf la sl bo sb N fu d f hN hfu hd hf
  obtain ⟨fu, rfl⟩ : ∃ q, fu = q + 1 := ⟨fu - 1, by omega⟩
  show ∃ f', F_X9_runSteps_10b N (GG_X9_runSteps N d) (F_X9_runSteps_10 N (GG_X9_runSteps N d) fu) b _ _ _ (axM Z f) = _ ∧ _
  unfold F_X9_runSteps_10b
  rw [if_pos (Int32.le_refl _)]
  exact ⟨f, rfl, hf, CRf.rf _ _⟩
theorem RUc.full (hh : lo < hi) (hi9 : hi < 2000) (hb : 200 ≤ σ.2.1) (hb2 : σ.2.1 ≤ 200) : RUc ψ l L lo hi op σ σ := by
  intro Z b fa sf la sl bo sb N fu d f hN hfu hd hf
  obtain ⟨fu, rfl⟩ : ∃ q, fu = q + 1 := ⟨fu - 1, by omega⟩
  have hf' := hf
  obtain ⟨hH, hS, h4, h5, h13⟩ := hf'
  have hC := hH.1
  have a0 := hC.1.1
  obtain ⟨p7, s0, -⟩ := hC.2.2.2.2.2.2.1
  show ∃ f', F_X9_runSteps_10b N (GG_X9_runSteps N d) (F_X9_runSteps_10 N (GG_X9_runSteps N d) fu) b _ _ _ (axM Z f) = _ ∧ _
  unfold F_X9_runSteps_10b
  rw [if_neg (qi_nge hh (by omega)), m_gr a0 p7, m_gi s0, h4, if_pos (show (200 : Int32) ≤ Int32.ofNat σ.2.1 from qi_ge (i := 200) hb (by omega))]
  exact ⟨f, rfl, hf, CRf.rf _ _⟩
/-- the loop's last row -/
theorem RUc.nx {Z : AxS} {b fa sf la sl bo sb N fu d : Nat} {f : Nat → Nat → Int32} (h : RUc ψ l L e hi op σ τ) (hL : L.length ≤ 150) (hq : L[lo]? = some q) (h7 : q.1 < 7) (he : q.2.2.2 = some e) (hs : q.1 < 6 → e = lo + 1) (hN : 2000 < N) (hfu : hi - e < fu) (hd : 6 ≤ d + op) (hf : CRr Z b fa sf la sl bo sb ψ l L σ f) (kr : Nat → Int32 → Int32 → Int32 → AxS → Option (AxS)) : ∃ f', F_X9_runSteps_194 N kr (F_X9_runSteps_10 N (GG_X9_runSteps N d) fu) b (Int32.ofNat hi) (Int32.ofNat op) (Int32.ofNat lo) (axM Z f) = some (axM Z f') ∧ CRr Z b fa sf la sl bo sb ψ l L τ f' ∧ CRf b f f' := by
  have hC := hf.1.1
  have a0 := hC.1.1
  obtain ⟨p7, hSp⟩ := hC.2.2.2.2.2.2.1
  have hlo := (List.getElem?_eq_some_iff.mp hq).1
  unfold F_X9_runSteps_194
  rw [m_gr a0 p7, m_is hSp.1, qc_behind hSp hf.2.1 (show lo < 150 by omega) hq h7 he hs, axB_s]
  exact h Z b fa sf la sl bo sb N fu d f hN hfu hd hf
theorem RUc.one (hL : L.length ≤ 150) (hq : L[lo]? = some q) (h6 : q.1 < 6) (he : q.2.2.2 = some (lo + 1)) (hv : q_evl ψ q) (hlo : lo < hi) (hhi : hi ≤ 150) (hb : σ.2.1 < 200) (h12 : σ.1 12 = 0) (h : RUc ψ l L (lo + 1) hi op (q_sgl ψ l q σ) τ) : RUc ψ l L lo hi op σ τ := by
  intro Z b fa sf la sl bo sb N fu d f hN hfu hd hf
  obtain ⟨fu, rfl⟩ : ∃ q, fu = q + 1 := ⟨fu - 1, by omega⟩
  obtain ⟨hH, hS, h4, h5, h13⟩ := hf
  have hC := hH.1
  have a0 := hC.1.1
  obtain ⟨p7, s0, ⟨q0, s1⟩, ⟨q1, s2⟩, q2, s3⟩ := hC.2.2.2.2.2.2.1
  have hlo9 : lo < 150 := by omega
  obtain ⟨R1, R2, R3⟩ := hS.row hq
  have E1 : ∀ v, ax2 f (b + 27) 4 v (b + 27 + 1) lo = Int32.ofNat (q.1 + 1) := fun v => by rw [ax2_n _ _ _ _ (by omega), R1]
  have hH1 : HC Z b fa sf la sl bo sb (ax2 f (b + 27) 4 (Int32.ofNat (σ.2.1 + 1))) ψ l σ.1 := hH.kp fun x p q => ax2_n _ _ _ _ q
  obtain ⟨f2, e2, g2, r2⟩ := qc_dos (q := q) hN hH1 h12 hv h6 (x := ax2 f (b + 27) 4 (Int32.ofNat (σ.2.1 + 1)) (b + 27 + 2) lo) (y := ax2 f (b + 27) 4 (Int32.ofNat (σ.2.1 + 1)) (b + 27 + 3) lo) (fun a c => by rw [ax2_n _ _ _ _ (by omega)]; exact R2 a c) (fun a => by rw [ax2_n _ _ _ _ (by omega)]; exact R3 a)
  show ∃ f', F_X9_runSteps_10b N (GG_X9_runSteps N d) (F_X9_runSteps_10 N (GG_X9_runSteps N d) fu) b _ _ _ (axM Z f) = _ ∧ _
  unfold F_X9_runSteps_10b
  rw [if_neg (qi_nge hlo (by omega)), m_gr a0 p7, m_gi s0, h4, if_neg (show ¬ (200 : Int32) ≤ Int32.ofNat σ.2.1 from qi_nge (i := 200) hb (by omega)), m_gr a0 p7, m_gi s0, h4, m_pi s0, qi_s, m_gr a0 p7, m_gr s0 q0, m_atn N s1 hlo9 (by omega), axB_s, E1, if_neg (show ¬ Int32.ofNat (q.1 + 1) = 7 from qi_ne (j := 7) (by omega) (by omega) (by omega)), m_gr a0 p7, m_gr s0 q0, m_atn N s1 hlo9 (by omega), axB_s, E1, m_gr a0 p7, m_gr s0 q1, m_atn N s2 hlo9 (by omega), axB_s, m_gr a0 p7, m_gr s0 q2, m_atn N s3 hlo9 (by omega), axB_s, m_is a0, e2, axB_s]
  have fr2 : CRf b f f2 := (CRf.c b 4 f _).tr ⟨fun z c => r2 z (by omega), fun k _ => by rw [r2 b (by omega)]⟩
  have S2 : SCl f2 (b + 27) L := hS.kp (by rw [r2 _ (by omega), ax2_j _ _ _ _ _ (by omega)]) (by rw [r2 _ (by omega), ax2_n _ _ _ _ (by omega)]) (by rw [r2 _ (by omega), ax2_n _ _ _ _ (by omega)]) (by rw [r2 _ (by omega), ax2_n _ _ _ _ (by omega)])
  have k4 : f2 (b + 27) 4 = Int32.ofNat (σ.2.1 + 1) := by rw [r2 _ (by omega), ax2_k]
  have k5 : f2 (b + 27) 5 = σ.2.2.1 := by rw [r2 _ (by omega), ax2_j _ _ _ _ _ (by omega), h5]
  have k13 : f2 b 13 = σ.2.2.2 := by rw [r2 _ (by omega), ax2_n _ _ _ _ (by omega), h13]
  by_cases cd : (q_dos ψ l q σ.1).1 = true
  · rw [if_pos cd, if_neg (show ¬ (1 : Int32) = 0 by decide), m_gr a0 p7, m_gi s0, m_pi s0, k5]
    have G : CRr Z b fa sf la sl bo sb ψ l L (q_sgl ψ l q σ) (ax2 f2 (b + 27) 5 (σ.2.2.1 + 1)) := by
      unfold q_sgl
      rw [if_pos cd, if_pos cd]
      exact ⟨g2.kp fun x p q => ax2_n _ _ _ _ q, S2.kp (ax2_j _ _ _ _ _ (by omega)) (ax2_n _ _ _ _ (by omega)) (ax2_n _ _ _ _ (by omega)) (ax2_n _ _ _ _ (by omega)), by rw [ax2_j _ _ _ _ _ (by omega), k4], ax2_k _ _ _ _, by rw [ax2_n _ _ _ _ (by omega), k13]; exact (Int32.add_zero _).symm⟩
    obtain ⟨f4, e4, g4, r4⟩ := h.nx (fu := fu) (d := d) hL hq (by omega) he (fun _ => rfl) hN (by omega) hd G (GG_X9_runSteps N d)
    exact ⟨f4, e4, g4, (fr2.tr (CRf.c b 5 f2 _)).tr r4⟩
  · rw [if_neg cd, if_pos rfl, m_gi a0, m_pi a0, k13]
    have G : CRr Z b fa sf la sl bo sb ψ l L (q_sgl ψ l q σ) (ax2 f2 b 13 (σ.2.2.2 + 1)) := by
      unfold q_sgl
      rw [if_neg cd, if_neg cd]
      exact ⟨g2.kp fun x p q => ax2_n _ _ _ _ p, S2.kp (by rw [ax2_n _ _ _ _ (by omega)]) (ax2_n _ _ _ _ (by omega)) (ax2_n _ _ _ _ (by omega)) (ax2_n _ _ _ _ (by omega)), by rw [ax2_n _ _ _ _ (by omega), k4], by rw [ax2_n _ _ _ _ (by omega), k5]; exact (Int32.add_zero _).symm, ax2_k _ _ _ _⟩
    obtain ⟨f4, e4, g4, r4⟩ := h.nx (fu := fu) (d := d) hL hq (by omega) he (fun _ => rfl) hN (by omega) hd G (GG_X9_runSteps N d)
    exact ⟨f4, e4, g4, (fr2.tr (CRf.r b f2 _)).tr r4⟩
theorem RPc.last (hL : L.length ≤ 150) (hq : L[lo]? = some q) (h6 : q.1 = 6) (he : q.2.2.2 = some e) (hle : lo < e) (hhi : e ≤ hi) (hb : σ.2.1 ≤ 200) (ht : times ≤ 30) (hk : k ≤ times) (hc : k = times ∨ 200 ≤ σ.2.1) (h : RUc ψ l L e hi op σ τ) : RPc ψ l L lo hi op times k σ τ := by
  intro Z b fa sf la sl bo sb N fu fu2 d f hN hfu hfu2 hd hf
  obtain ⟨fu2, rfl⟩ : ∃ q, fu2 = q + 1 := ⟨fu2 - 1, by omega⟩
  have hC := hf.1.1
  have a0 := hC.1.1
  obtain ⟨p7, s0, -⟩ := hC.2.2.2.2.2.2.1
  have G := h.nx (fu := fu) (d := d) hL hq (by omega) he (fun c => by omega) hN (by omega) hd hf (GG_X9_runSteps N d)
  show ∃ f', F_X9_runSteps_76b N (GG_X9_runSteps N d) (F_X9_runSteps_10 N (GG_X9_runSteps N d) fu) (F_X9_runSteps_76 N (GG_X9_runSteps N d) (F_X9_runSteps_10 N (GG_X9_runSteps N d) fu) fu2) b _ _ _ _ _ (axM Z f) = _ ∧ _
  unfold F_X9_runSteps_76b F_X9_runSteps_122
  by_cases c : k = times
  · rw [if_pos (show Int32.ofNat times ≤ Int32.ofNat k from qi_ge (by omega) (by omega))]
    exact G
  · rw [if_neg (show ¬ Int32.ofNat times ≤ Int32.ofNat k from qi_nge (by omega) (by omega)), m_gr a0 p7, m_gi s0, hf.2.2.1, if_pos (show (200 : Int32) ≤ Int32.ofNat σ.2.1 from qi_ge (i := 200) (by omega) (by omega))]
    exact G
theorem RPc.go (hL : L.length ≤ 150) (hq : L[lo]? = some q) (h6 : q.1 = 6) (he : q.2.2.2 = some e) (ho : op < 6) (hle : lo < e) (he9 : e ≤ 150) (ht : times ≤ 30) (hk : k < times) (hb : σ.2.1 < 200) (h1 : RUc ψ l L (lo + 1) e (op + 1) σ ρ) (h2 : RPc ψ l L lo hi op times (k + 1) ρ τ) : RPc ψ l L lo hi op times k σ τ := by
  intro Z b fa sf la sl bo sb N fu fu2 d f hN hfu hfu2 hd hf
  obtain ⟨fu2, rfl⟩ : ∃ q, fu2 = q + 1 := ⟨fu2 - 1, by omega⟩
  have hC := hf.1.1
  have a0 := hC.1.1
  obtain ⟨p7, hSp⟩ := hC.2.2.2.2.2.2.1
  have hlo := (List.getElem?_eq_some_iff.mp hq).1
  show ∃ f', F_X9_runSteps_76b N (GG_X9_runSteps N d) (F_X9_runSteps_10 N (GG_X9_runSteps N d) fu) (F_X9_runSteps_76 N (GG_X9_runSteps N d) (F_X9_runSteps_10 N (GG_X9_runSteps N d) fu) fu2) b _ _ _ _ _ (axM Z f) = _ ∧ _
  unfold F_X9_runSteps_76b
  rw [if_neg (show ¬ Int32.ofNat times ≤ Int32.ofNat k from qi_nge (by omega) (by omega)), m_gr a0 p7, m_gi hSp.1, hf.2.2.1, if_neg (show ¬ (200 : Int32) ≤ Int32.ofNat σ.2.1 from qi_nge (i := 200) (by omega) (by omega)), m_gr a0 p7, m_is hSp.1, qc_behind hSp hf.2.1 (show lo < 150 by omega) hq (by omega) he (fun c => by omega), axB_s, m_is a0, qi_s, qi_s, qi_s]
  obtain ⟨d', rfl⟩ : ∃ q, d = q + 1 := ⟨d - 1, by omega⟩
  obtain ⟨f1, e1, g1, r1⟩ := h1 Z b fa sf la sl bo sb N N d' f hN (by omega) (by omega) hf
  have e1' : GG_X9_runSteps N (d' + 1) b (Int32.ofNat (lo + 1)) (Int32.ofNat e) (Int32.ofNat (op + 1)) (axM Z f) = some (axM Z f1) := by
    show F_X9_runSteps N (GG_X9_runSteps N d') b _ _ _ (axM Z f) = _
    unfold F_X9_runSteps
    rw [if_pos (show Int32.ofNat (op + 1) ≤ 6 from qi_ge (j := 6) (by omega) (by omega))]
    exact e1
  rw [e1', axBV_s]
  obtain ⟨f2, e2, g2, r2⟩ := h2 Z b fa sf la sl bo sb N fu fu2 (d' + 1) f1 hN hfu (by omega) hd g1
  exact ⟨f2, e2, g2, r1.tr r2⟩
theorem RUc.rep (hL : L.length ≤ 150) (hq : L[lo]? = some q) (h6 : q.1 = 6) (h30 : q.2.1 ≤ 30) (hlo : lo < hi) (hhi : hi ≤ 150) (hb : σ.2.1 < 200) (h : RPc ψ l L lo hi op q.2.1 0 (q_s1 σ) τ) : RUc ψ l L lo hi op σ τ := by
  intro Z b fa sf la sl bo sb N fu d f hN hfu hd hf
  obtain ⟨fu, rfl⟩ : ∃ q, fu = q + 1 := ⟨fu - 1, by omega⟩
  obtain ⟨hH, hS, h4, h5, h13⟩ := hf
  have hC := hH.1
  have a0 := hC.1.1
  obtain ⟨p7, s0, ⟨q0, s1⟩, ⟨q1, s2⟩, q2, s3⟩ := hC.2.2.2.2.2.2.1
  have hlo9 : lo < 150 := by omega
  obtain ⟨R1, R2, R3⟩ := hS.row hq
  have E1 : ∀ v, ax2 f (b + 27) 4 v (b + 27 + 1) lo = Int32.ofNat (q.1 + 1) := fun v => by rw [ax2_n _ _ _ _ (by omega), R1]
  have E2 : ∀ v, ax2 f (b + 27) 4 v (b + 27 + 2) lo = Int32.ofNat q.2.1 := fun v => by rw [ax2_n _ _ _ _ (by omega), R2 (by omega) (by omega)]
  have hH1 : HC Z b fa sf la sl bo sb (ax2 f (b + 27) 4 (Int32.ofNat (σ.2.1 + 1))) ψ l σ.1 := hH.kp fun x p q => ax2_n _ _ _ _ q
  have G : CRr Z b fa sf la sl bo sb ψ l L (q_s1 σ) (ax2 f (b + 27) 4 (Int32.ofNat (σ.2.1 + 1))) := ⟨hH1, hS.kp (ax2_j _ _ _ _ _ (by omega)) (ax2_n _ _ _ _ (by omega)) (ax2_n _ _ _ _ (by omega)) (ax2_n _ _ _ _ (by omega)), ax2_k _ _ _ _, by rw [ax2_j _ _ _ _ _ (by omega), h5]; rfl, by rw [ax2_n _ _ _ _ (by omega), h13]; rfl⟩
  show ∃ f', F_X9_runSteps_10b N (GG_X9_runSteps N d) (F_X9_runSteps_10 N (GG_X9_runSteps N d) fu) b _ _ _ (axM Z f) = _ ∧ _
  unfold F_X9_runSteps_10b
  rw [if_neg (qi_nge hlo (by omega)), m_gr a0 p7, m_gi s0, h4, if_neg (show ¬ (200 : Int32) ≤ Int32.ofNat σ.2.1 from qi_nge (i := 200) hb (by omega)), m_gr a0 p7, m_gi s0, h4, m_pi s0, qi_s, m_gr a0 p7, m_gr s0 q0, m_atn N s1 hlo9 (by omega), axB_s, E1, if_pos (show Int32.ofNat (q.1 + 1) = 7 by rw [h6]; rfl), m_gr a0 p7, m_gr s0 q1, m_atn N s2 hlo9 (by omega), axB_s, E2]
  obtain ⟨f2, e2, g2, r2⟩ := h Z b fa sf la sl bo sb N fu N d _ hN (by omega) (by omega) hd G
  exact ⟨f2, e2, g2, (CRf.c b 4 f _).tr r2⟩
end
