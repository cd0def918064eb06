/-! texts: one clause, the model's -/
theorem q_tp_i : ∀ j, j < 7 → ∀ k, k < 7 → q_tp j = q_tp k → j = k := by decide
theorem q_tp_3 : ∀ i, i < 4 → q_tp (3 + i) = i := by decide
theorem FAm.sc {f : Nat → Nat → Int32} {m k : Nat} {φ : QF} {v : Int32} (h : FAm f m φ) (hk : k < 3) : FAm (ax2 f (m + 3) (q_tp k) v) m (q_f2 φ 0 k v) := by
  unfold FAm
  rw [ax2_n _ _ _ _ (show m + 5 ≠ m + 3 by omega), show (fun i => ax2 f (m + 3) (q_tp k) v (m + 8 + i)) = fun i => f (m + 8 + i) from funext fun i => ax2_n _ _ _ _ (by omega)]
  refine FA.sc h hk fun j hj => ?_
  rw [ax2_a]
  by_cases c : j = k
  · rw [if_pos c, if_pos (by rw [c])]
  · rw [if_neg c, if_neg (fun q => c (q_tp_i j hj k (by omega) q))]
theorem FAm.hv {f : Nat → Nat → Int32} {m k : Nat} {φ : QF} {v : Int32} (h : FAm f m φ) : FAm (ax2 f (m + 5) k v) m (q_f2 φ 1 k v) := by
  unfold FAm
  rw [ax2_n _ _ _ _ (show m + 3 ≠ m + 5 by omega), show (fun i => ax2 f (m + 5) k v (m + 8 + i)) = fun i => f (m + 8 + i) from funext fun i => ax2_n _ _ _ _ (by omega)]
  exact FA.hv h fun j _ => ax2_a _ _ _ _ _
theorem FAm.rw {f : Nat → Nat → Int32} {m i c : Nat} {φ : QF} {v : Int32} (h : FAm f m φ) (hi : i < 4) (hc : φ 0 (3 + i) = Int32.ofNat c) (hc2 : c < 100) : FAm (ax2 (ax2 f (m + 8 + i) c v) (m + 3) i (Int32.ofNat (c + 1))) m (q_f3 φ i c v) := by
  unfold FAm
  rw [ax2_n _ _ _ _ (show m + 5 ≠ m + 3 by omega), ax2_n _ _ _ _ (show m + 5 ≠ m + 8 + i by omega)]
  refine FA.rw h hi hc hc2 (fun j hj => ?_) (fun j hj k => ?_)
  · rw [ax2_a, ax2_n _ _ _ _ (show m + 3 ≠ m + 8 + i by omega)]
    by_cases e : j = 3 + i
    · rw [if_pos e, if_pos (by rw [e, q_tp_3 i hi])]
    · rw [if_neg e, if_neg fun q => e (q_tp_i j hj (3 + i) (by omega) (by rw [q, q_tp_3 i hi]))]
  · rw [ax2_n _ _ _ _ (show m + 8 + j ≠ m + 3 by omega)]
    by_cases e : j = i
    · rw [e, ax2_a]
      by_cases e2 : k = c
      · rw [if_pos e2, if_pos ⟨rfl, e2⟩]
      · rw [if_neg e2, if_neg fun q => e2 q.2]
    · rw [ax2_n _ _ _ _ (by omega), if_neg fun q => e q.1]
def RFm (m : Nat) (f f' : Nat → Nat → Int32) : Prop := (∀ x, x ≠ m → ¬ (x = m + 3 ∨ x = m + 5 ∨ (m + 8 ≤ x ∧ x ≤ m + 11)) → f' x = f x) ∧ ∀ j, j ≠ 4 → j ≠ 5 → j ≠ 6 → j ≠ 7 → f' m j = f m j
theorem RFm.rf (m : Nat) (f : Nat → Nat → Int32) : RFm m f f := ⟨fun _ _ _ => rfl, fun _ _ _ _ _ => rfl⟩
theorem RFm.tr {m : Nat} {f g h : Nat → Nat → Int32} (h1 : RFm m f g) (h2 : RFm m g h) : RFm m f h := ⟨fun x a b => by rw [h2.1 x a b, h1.1 x a b], fun j a b c d => by rw [h2.2 j a b c d, h1.2 j a b c d]⟩
theorem MFr.rc {m : Nat} {f g : Nat → Nat → Int32} (h : MFr f g m) : RFm m f g := ⟨fun x a _ => h.1 x a, fun j a b c _ => h.2 j a b c⟩
theorem MFr.fa {m : Nat} {f g : Nat → Nat → Int32} (h : MFr f g m) {φ : QF} (hF : FAm f m φ) : FAm g m φ := hF.fr fun i _ => h.1 _ (by omega)
theorem RFm.w {m : Nat} (f : Nat → Nat → Int32) {a : Nat} (k : Nat) (v : Int32) (ha : a = m + 3 ∨ a = m + 5 ∨ (m + 8 ≤ a ∧ a ≤ m + 11)) : RFm m f (ax2 f a k v) := ⟨fun x _ b => ax2_n _ _ _ _ (fun q => b (q ▸ ha)), fun j _ _ _ _ => by rw [ax2_n _ _ _ _ (by omega)]⟩
theorem MT.fr {m n p : Nat} {f g : Nat → Nat → Int32} {t : QR} {k pl : Int32} (h : MT f m t n p k pl) (e : ∀ j, j = 2 ∨ j = 4 ∨ j = 5 ∨ j = 6 → g m j = f m j) (e1 : g (m + 1) = f (m + 1)) : MT g m t n p k pl := by
  unfold MT at h ⊢
  rw [e 2 (by omega), e 4 (by omega), e 5 (by omega), e 6 (by omega), e1]
  exact h
theorem MT.n {m n p : Nat} {f : Nat → Nat → Int32} {t : QR} {k pl : Int32} {a j : Nat} {v : Int32} (h : MT f m t n p k pl) (ha : a ≠ m) (ha1 : a ≠ m + 1) : MT (ax2 f a j v) m t n p k pl := h.fr (fun i _ => by rw [ax2_n _ _ _ _ (Ne.symm ha)]) (ax2_n _ _ _ _ (Ne.symm ha1))
theorem MT.j {m n p : Nat} {f : Nat → Nat → Int32} {t : QR} {k pl : Int32} {j : Nat} {v : Int32} (h : MT f m t n p k pl) (hj : j ≠ 2 ∧ j ≠ 4 ∧ j ≠ 5 ∧ j ≠ 6) : MT (ax2 f m j v) m t n p k pl := h.fr (fun i _ => ax2_j _ _ _ _ _ (by omega)) (ax2_n _ _ _ _ (by omega))
section
variable {Z : AxS} {m N n s e cnt : Nat} {f f0 : Nat → Nat → Int32} {t : QR} {pl : Int32} {φ : QF}
def QMs (Z : AxS) (m : Nat) (t : QR) (n : Nat) (pl : Int32) (cnt : Nat) (f : Nat → Nat → Int32) (r : Option AxS) (o : QO) : Prop := match o with
  | .inl z => ∃ f' q, r = some (axM Z f') ∧ MT f' m t n q z.1 z.2 ∧ RFm m f f'
  | .inr z => ∃ f', r = some (axM Z f') ∧ MT f' m t n z.2 0 pl ∧ FAm f' m z.1 ∧ f' m 7 = Int32.ofNat (cnt + 1) ∧ RFm m f f'
theorem qm_sgo {p : Nat} (hN : 2000 < N) (hm : LMo Z m) (h : MT f m t n p 0 pl) (hF : FAm f m φ) (hc : f m 7 = Int32.ofNat (cnt + 1)) (hr : RFm m f0 f) : QMs Z m t n pl cnt f0 (F_X10_clause_187 N m (axM Z f)) (q_sgo t n p φ) := by
  have h0 := hm.1
  have r := qm_sign hN hm h (c := 59) (by decide)
  unfold q_sgo F_X10_clause_187
  rw [m_is h0]
  by_cases c : q_B t n (q_bl t n p) = 59
  · obtain ⟨f1, e1, g1, fr1⟩ := r.1 ⟨rfl, c⟩
    rw [if_pos c, e1, axBV_s]
    exact ⟨f1, rfl, g1, fr1.fa hF, by rw [fr1.2 7 (by omega) (by omega) (by omega), hc], hr.tr fr1.rc⟩
  · obtain ⟨f1, q, e1, g1, fr1⟩ := r.2 fun z => c z.2
    rw [if_neg c, e1, axBV_s]
    exact ⟨f1, q, rfl, g1, hr.tr fr1.rc⟩
theorem qm_fl {p : Nat} {k w : Int32} (hN : 2000 < N) (hm : LMo Z m) (h : MT f m t n p k w) (hk : k ≠ 0) (hr : RFm m f0 f) : QMs Z m t n pl cnt f0 (F_X10_clause_187 N m (axM Z f)) (.inl (k, w)) := by
  have h0 := hm.1
  obtain ⟨f1, q, e1, g1, fr1⟩ := (qm_sign hN hm h (c := 59) (by decide)).2 fun z => hk z.1
  rw [if_neg hk, if_neg hk] at g1
  unfold F_X10_clause_187
  rw [m_is h0, e1, axBV_s]
  exact ⟨f1, q, rfl, g1, hr.tr fr1.rc⟩
theorem qm_n4 {p : Nat} (hN : 2000 < N) (hm : LMo Z m) (h : MT f m t n p 0 pl) (hF : FAm f m φ) (hc : f m 7 = Int32.ofNat (cnt + 1)) (hr : RFm m f0 f) : QMs Z m t n pl cnt f0 (F_X10_clause_124 N m 4 0 m (axM Z f)) (q_n1 t n p 0 9999 fun x => q_f2 φ 0 0 (Int32.ofNat x)) := by
  have h0 := hm.1
  have p11 : axP Z m 11 = some (m + 3) := hm.2.1 11 3 rfl
  have s3 : axL Z (m + 3) = some (1, 7) := hm.2.2.1 3 _ rfl
  have r := qm_number hN hm h 0 9999
  unfold F_X10_clause_124 F_X10_clause_151 F_X10_mostOf q_n1
  rw [if_neg (show ¬ (4 : Int32) = 0 by decide), if_neg (show ¬ (4 : Int32) = 1 by decide), if_neg (show ¬ (4 : Int32) = 2 by decide), if_neg (show ¬ (4 : Int32) = 3 by decide), if_pos rfl, axB_s, m_is h0]
  by_cases c : q_nok t n p 0 9999
  · obtain ⟨f1, e1, g1, fr1⟩ := r.1 ⟨rfl, c⟩
    rw [if_pos (q_nb_t c), e1, axB_s, m_gi h0, g1.2.2.1, if_pos rfl, if_neg (show ¬ (4 : Int32) ≤ 3 by decide), m_gr h0 p11, m_st7_4 s3, m_gi h0, ax2_n _ _ _ _ (show m ≠ m + 3 by omega), g1.2.2.1, if_pos rfl, if_pos (show (4 : Int32) ≤ 4 by decide)]
    exact qm_sgo hN hm (g1.n (by omega) (by omega)) ((fr1.fa hF).sc (k := 0) (by omega)) (by rw [ax2_n _ _ _ _ (by omega), fr1.2 7 (by omega) (by omega) (by omega), hc]) (hr.tr (fr1.rc.tr (RFm.w _ _ _ (by omega))))
  · obtain ⟨f1, q, e1, g1, fr1⟩ := r.2 fun z => c z.2
    rw [if_pos rfl, if_pos rfl] at g1
    rw [if_neg (q_nb_f c), e1, axB_s, m_gi h0, g1.2.2.1, if_neg (q_nfk_z _ _ _), m_gi h0, g1.2.2.1, if_neg (q_nfk_z _ _ _)]
    exact qm_fl hN hm g1 (q_nfk_z _ _ _) (hr.tr fr1.rc)
theorem qm_n5 {p : Nat} (hN : 2000 < N) (hm : LMo Z m) (h : MT f m t n p 0 pl) (hF : FAm f m φ) (hc : f m 7 = Int32.ofNat (cnt + 1)) (hr : RFm m f0 f) : QMs Z m t n pl cnt f0 (F_X10_clause_124 N m 5 0 m (axM Z f)) (q_n1 t n p 0 20 fun x => q_f2 φ 0 1 (Int32.ofNat x)) := by
  have h0 := hm.1
  have p11 : axP Z m 11 = some (m + 3) := hm.2.1 11 3 rfl
  have s3 : axL Z (m + 3) = some (1, 7) := hm.2.2.1 3 _ rfl
  have r := qm_number hN hm h 0 20
  unfold F_X10_clause_124 F_X10_clause_151 F_X10_mostOf q_n1
  rw [if_neg (show ¬ (5 : Int32) = 0 by decide), if_neg (show ¬ (5 : Int32) = 1 by decide), if_neg (show ¬ (5 : Int32) = 2 by decide), if_neg (show ¬ (5 : Int32) = 3 by decide), if_neg (show ¬ (5 : Int32) = 4 by decide), if_pos rfl, axB_s, m_is h0]
  by_cases c : q_nok t n p 0 20
  · obtain ⟨f1, e1, g1, fr1⟩ := r.1 ⟨rfl, c⟩
    rw [if_pos (q_nb_t c), e1, axB_s, m_gi h0, g1.2.2.1, if_pos rfl, if_neg (show ¬ (5 : Int32) ≤ 3 by decide), m_gr h0 p11, m_st7_5 s3, m_gi h0, ax2_n _ _ _ _ (show m ≠ m + 3 by omega), g1.2.2.1, if_pos rfl, if_pos (show (4 : Int32) ≤ 5 by decide)]
    exact qm_sgo hN hm (g1.n (by omega) (by omega)) ((fr1.fa hF).sc (k := 1) (by omega)) (by rw [ax2_n _ _ _ _ (by omega), fr1.2 7 (by omega) (by omega) (by omega), hc]) (hr.tr (fr1.rc.tr (RFm.w _ _ _ (by omega))))
  · obtain ⟨f1, q, e1, g1, fr1⟩ := r.2 fun z => c z.2
    rw [if_pos rfl, if_pos rfl] at g1
    rw [if_neg (q_nb_f c), e1, axB_s, m_gi h0, g1.2.2.1, if_neg (q_nfk_z _ _ _), m_gi h0, g1.2.2.1, if_neg (q_nfk_z _ _ _)]
    exact qm_fl hN hm g1 (q_nfk_z _ _ _) (hr.tr fr1.rc)
theorem qm_n6 {p : Nat} (hN : 2000 < N) (hm : LMo Z m) (h : MT f m t n p 0 pl) (hF : FAm f m φ) (hc : f m 7 = Int32.ofNat (cnt + 1)) (hr : RFm m f0 f) : QMs Z m t n pl cnt f0 (F_X10_clause_124 N m 6 0 m (axM Z f)) (q_n1 t n p 0 999 fun x => q_f2 φ 0 2 (Int32.ofNat x)) := by
  have h0 := hm.1
  have p11 : axP Z m 11 = some (m + 3) := hm.2.1 11 3 rfl
  have s3 : axL Z (m + 3) = some (1, 7) := hm.2.2.1 3 _ rfl
  have r := qm_number hN hm h 0 999
  unfold F_X10_clause_124 F_X10_clause_151 F_X10_mostOf q_n1
  rw [if_neg (show ¬ (6 : Int32) = 0 by decide), if_neg (show ¬ (6 : Int32) = 1 by decide), if_neg (show ¬ (6 : Int32) = 2 by decide), if_neg (show ¬ (6 : Int32) = 3 by decide), if_neg (show ¬ (6 : Int32) = 4 by decide), if_neg (show ¬ (6 : Int32) = 5 by decide), axB_s, m_is h0]
  by_cases c : q_nok t n p 0 999
  · obtain ⟨f1, e1, g1, fr1⟩ := r.1 ⟨rfl, c⟩
    rw [if_pos (q_nb_t c), e1, axB_s, m_gi h0, g1.2.2.1, if_pos rfl, if_neg (show ¬ (6 : Int32) ≤ 3 by decide), m_gr h0 p11, m_st7_6 s3, m_gi h0, ax2_n _ _ _ _ (show m ≠ m + 3 by omega), g1.2.2.1, if_pos rfl, if_pos (show (4 : Int32) ≤ 6 by decide)]
    exact qm_sgo hN hm (g1.n (by omega) (by omega)) ((fr1.fa hF).sc (k := 2) (by omega)) (by rw [ax2_n _ _ _ _ (by omega), fr1.2 7 (by omega) (by omega) (by omega), hc]) (hr.tr (fr1.rc.tr (RFm.w _ _ _ (by omega))))
  · obtain ⟨f1, q, e1, g1, fr1⟩ := r.2 fun z => c z.2
    rw [if_pos rfl, if_pos rfl] at g1
    rw [if_neg (q_nb_f c), e1, axB_s, m_gi h0, g1.2.2.1, if_neg (q_nfk_z _ _ _), m_gi h0, g1.2.2.1, if_neg (q_nfk_z _ _ _)]
    exact qm_fl hN hm g1 (q_nfk_z _ _ _) (hr.tr fr1.rc)
theorem qm_n0 {p c : Nat} (hN : 2000 < N) (hm : LMo Z m) (h : MT f m t n p 0 pl) (hF : FAm f m φ) (hc : f m 7 = Int32.ofNat (cnt + 1)) (hr : RFm m f0 f) (hv : φ 0 3 = Int32.ofNat c) (hv2 : c < 8) : QMs Z m t n pl cnt f0 (F_X10_clause_124 N m 0 1 m (axM Z f)) (q_n1 t n p 1 20 fun x => q_f3 φ 0 (φ 0 (3 + 0)).toNatClampNeg (Int32.ofNat x)) := by
  have h0 := hm.1
  have p11 : axP Z m 11 = some (m + 3) := hm.2.1 11 3 rfl
  have s3 : axL Z (m + 3) = some (1, 7) := hm.2.2.1 3 _ rfl
  have p15 : axP Z m 15 = some (m + 7) := hm.2.1 15 7 rfl
  have s7 : axL Z (m + 7) = some (3, 4) := hm.2.2.1 7 _ rfl
  obtain ⟨pr, sr⟩ : axP Z (m + 7) 0 = some (m + 8 + 0) ∧ axL Z (m + 8 + 0) = some (1, 8) := hm.2.2.2 7 4 8 rfl 0 (by omega)
  have r := qm_number hN hm h 1 20
  unfold F_X10_clause_124 F_X10_clause_151 F_X10_mostOf q_n1
  rw [if_pos rfl, axB_s, m_is h0]
  by_cases c9 : q_nok t n p 1 20
  · obtain ⟨f1, e1, g1, fr1⟩ := r.1 ⟨rfl, c9⟩
    have hF1 := fr1.fa hF
    have e2 : f1 (m + 3) 0 = Int32.ofNat c := (hF1.1 3 (by omega)).trans hv
    rw [if_pos (q_nb_t c9), e1, axB_s, m_gi h0, g1.2.2.1, if_pos rfl, if_pos (show (0 : Int32) ≤ 3 by decide), m_gi h0, g1.2.2.1, if_pos rfl, if_neg (show ¬ (4 : Int32) ≤ 0 by decide), m_gr h0 p15, m_ldr_0 s7 (by omega) (by omega) pr, m_gr h0 p11, m_ld7_0 s3, e2, m_stn sr hv2 (by omega), m_gr h0 p11, m_ld7_0 s3, ax2_n _ _ _ _ (show m + 3 ≠ m + 8 + 0 by omega), e2, m_st7_0 s3, qi_s, hv, qi_tn (by omega)]
    exact qm_sgo hN hm ((g1.n (by omega) (by omega)).n (by omega) (by omega)) (hF1.rw (i := 0) (by omega) hv (by omega)) (by rw [ax2_n _ _ _ _ (by omega), ax2_n _ _ _ _ (by omega), fr1.2 7 (by omega) (by omega) (by omega), hc]) (hr.tr (fr1.rc.tr ((RFm.w _ _ _ (by omega)).tr (RFm.w _ _ _ (by omega)))))
  · obtain ⟨f1, q, e1, g1, fr1⟩ := r.2 fun z => c9 z.2
    rw [if_pos rfl, if_pos rfl] at g1
    rw [if_neg (q_nb_f c9), e1, axB_s, m_gi h0, g1.2.2.1, if_neg (q_nfk_z _ _ _), m_gi h0, g1.2.2.1, if_neg (q_nfk_z _ _ _)]
    exact qm_fl hN hm g1 (q_nfk_z _ _ _) (hr.tr fr1.rc)
theorem qm_n1 {p c : Nat} (hN : 2000 < N) (hm : LMo Z m) (h : MT f m t n p 0 pl) (hF : FAm f m φ) (hc : f m 7 = Int32.ofNat (cnt + 1)) (hr : RFm m f0 f) (hv : φ 0 4 = Int32.ofNat c) (hv2 : c < 8) : QMs Z m t n pl cnt f0 (F_X10_clause_124 N m 1 0 m (axM Z f)) (q_n1 t n p 0 9 fun x => q_f3 φ 1 (φ 0 (3 + 1)).toNatClampNeg (Int32.ofNat x)) := by
  have h0 := hm.1
  have p11 : axP Z m 11 = some (m + 3) := hm.2.1 11 3 rfl
  have s3 : axL Z (m + 3) = some (1, 7) := hm.2.2.1 3 _ rfl
  have p15 : axP Z m 15 = some (m + 7) := hm.2.1 15 7 rfl
  have s7 : axL Z (m + 7) = some (3, 4) := hm.2.2.1 7 _ rfl
  obtain ⟨pr, sr⟩ : axP Z (m + 7) 1 = some (m + 8 + 1) ∧ axL Z (m + 8 + 1) = some (1, 8) := hm.2.2.2 7 4 8 rfl 1 (by omega)
  have r := qm_number hN hm h 0 9
  unfold F_X10_clause_124 F_X10_clause_151 F_X10_mostOf q_n1
  rw [if_neg (show ¬ (1 : Int32) = 0 by decide), if_pos rfl, axB_s, m_is h0]
  by_cases c9 : q_nok t n p 0 9
  · obtain ⟨f1, e1, g1, fr1⟩ := r.1 ⟨rfl, c9⟩
    have hF1 := fr1.fa hF
    have e2 : f1 (m + 3) 1 = Int32.ofNat c := (hF1.1 4 (by omega)).trans hv
    rw [if_pos (q_nb_t c9), e1, axB_s, m_gi h0, g1.2.2.1, if_pos rfl, if_pos (show (1 : Int32) ≤ 3 by decide), m_gi h0, g1.2.2.1, if_pos rfl, if_neg (show ¬ (4 : Int32) ≤ 1 by decide), m_gr h0 p15, m_ldr_1 s7 (by omega) (by omega) pr, m_gr h0 p11, m_ld7_1 s3, e2, m_stn sr hv2 (by omega), m_gr h0 p11, m_ld7_1 s3, ax2_n _ _ _ _ (show m + 3 ≠ m + 8 + 1 by omega), e2, m_st7_1 s3, qi_s, hv, qi_tn (by omega)]
    exact qm_sgo hN hm ((g1.n (by omega) (by omega)).n (by omega) (by omega)) (hF1.rw (i := 1) (by omega) hv (by omega)) (by rw [ax2_n _ _ _ _ (by omega), ax2_n _ _ _ _ (by omega), fr1.2 7 (by omega) (by omega) (by omega), hc]) (hr.tr (fr1.rc.tr ((RFm.w _ _ _ (by omega)).tr (RFm.w _ _ _ (by omega)))))
  · obtain ⟨f1, q, e1, g1, fr1⟩ := r.2 fun z => c9 z.2
    rw [if_pos rfl, if_pos rfl] at g1
    rw [if_neg (q_nb_f c9), e1, axB_s, m_gi h0, g1.2.2.1, if_neg (q_nfk_z _ _ _), m_gi h0, g1.2.2.1, if_neg (q_nfk_z _ _ _)]
    exact qm_fl hN hm g1 (q_nfk_z _ _ _) (hr.tr fr1.rc)
theorem qm_n2 {p c : Nat} (hN : 2000 < N) (hm : LMo Z m) (h : MT f m t n p 0 pl) (hF : FAm f m φ) (hc : f m 7 = Int32.ofNat (cnt + 1)) (hr : RFm m f0 f) (hv : φ 0 5 = Int32.ofNat c) (hv2 : c < 8) : QMs Z m t n pl cnt f0 (F_X10_clause_124 N m 2 0 m (axM Z f)) (q_n1 t n p 0 40 fun x => q_f3 φ 2 (φ 0 (3 + 2)).toNatClampNeg (Int32.ofNat x)) := by
  have h0 := hm.1
  have p11 : axP Z m 11 = some (m + 3) := hm.2.1 11 3 rfl
  have s3 : axL Z (m + 3) = some (1, 7) := hm.2.2.1 3 _ rfl
  have p15 : axP Z m 15 = some (m + 7) := hm.2.1 15 7 rfl
  have s7 : axL Z (m + 7) = some (3, 4) := hm.2.2.1 7 _ rfl
  obtain ⟨pr, sr⟩ : axP Z (m + 7) 2 = some (m + 8 + 2) ∧ axL Z (m + 8 + 2) = some (1, 8) := hm.2.2.2 7 4 8 rfl 2 (by omega)
  have r := qm_number hN hm h 0 40
  unfold F_X10_clause_124 F_X10_clause_151 F_X10_mostOf q_n1
  rw [if_neg (show ¬ (2 : Int32) = 0 by decide), if_neg (show ¬ (2 : Int32) = 1 by decide), if_pos rfl, axB_s, m_is h0]
  by_cases c9 : q_nok t n p 0 40
  · obtain ⟨f1, e1, g1, fr1⟩ := r.1 ⟨rfl, c9⟩
    have hF1 := fr1.fa hF
    have e2 : f1 (m + 3) 2 = Int32.ofNat c := (hF1.1 5 (by omega)).trans hv
    rw [if_pos (q_nb_t c9), e1, axB_s, m_gi h0, g1.2.2.1, if_pos rfl, if_pos (show (2 : Int32) ≤ 3 by decide), m_gi h0, g1.2.2.1, if_pos rfl, if_neg (show ¬ (4 : Int32) ≤ 2 by decide), m_gr h0 p15, m_ldr_2 s7 (by omega) (by omega) pr, m_gr h0 p11, m_ld7_2 s3, e2, m_stn sr hv2 (by omega), m_gr h0 p11, m_ld7_2 s3, ax2_n _ _ _ _ (show m + 3 ≠ m + 8 + 2 by omega), e2, m_st7_2 s3, qi_s, hv, qi_tn (by omega)]
    exact qm_sgo hN hm ((g1.n (by omega) (by omega)).n (by omega) (by omega)) (hF1.rw (i := 2) (by omega) hv (by omega)) (by rw [ax2_n _ _ _ _ (by omega), ax2_n _ _ _ _ (by omega), fr1.2 7 (by omega) (by omega) (by omega), hc]) (hr.tr (fr1.rc.tr ((RFm.w _ _ _ (by omega)).tr (RFm.w _ _ _ (by omega)))))
  · obtain ⟨f1, q, e1, g1, fr1⟩ := r.2 fun z => c9 z.2
    rw [if_pos rfl, if_pos rfl] at g1
    rw [if_neg (q_nb_f c9), e1, axB_s, m_gi h0, g1.2.2.1, if_neg (q_nfk_z _ _ _), m_gi h0, g1.2.2.1, if_neg (q_nfk_z _ _ _)]
    exact qm_fl hN hm g1 (q_nfk_z _ _ _) (hr.tr fr1.rc)
theorem qm_n3 {p c : Nat} (hN : 2000 < N) (hm : LMo Z m) (h : MT f m t n p 0 pl) (hF : FAm f m φ) (hc : f m 7 = Int32.ofNat (cnt + 1)) (hr : RFm m f0 f) (hv : φ 0 6 = Int32.ofNat c) (hv2 : c < 8) : QMs Z m t n pl cnt f0 (F_X10_clause_124 N m 3 1 m (axM Z f)) (q_n1 t n p 1 99 fun x => q_f3 φ 3 (φ 0 (3 + 3)).toNatClampNeg (Int32.ofNat x)) := by
  have h0 := hm.1
  have p11 : axP Z m 11 = some (m + 3) := hm.2.1 11 3 rfl
  have s3 : axL Z (m + 3) = some (1, 7) := hm.2.2.1 3 _ rfl
  have p15 : axP Z m 15 = some (m + 7) := hm.2.1 15 7 rfl
  have s7 : axL Z (m + 7) = some (3, 4) := hm.2.2.1 7 _ rfl
  obtain ⟨pr, sr⟩ : axP Z (m + 7) 3 = some (m + 8 + 3) ∧ axL Z (m + 8 + 3) = some (1, 8) := hm.2.2.2 7 4 8 rfl 3 (by omega)
  have r := qm_number hN hm h 1 99
  unfold F_X10_clause_124 F_X10_clause_151 F_X10_mostOf q_n1
  rw [if_neg (show ¬ (3 : Int32) = 0 by decide), if_neg (show ¬ (3 : Int32) = 1 by decide), if_neg (show ¬ (3 : Int32) = 2 by decide), if_pos rfl, axB_s, m_is h0]
  by_cases c9 : q_nok t n p 1 99
  · obtain ⟨f1, e1, g1, fr1⟩ := r.1 ⟨rfl, c9⟩
    have hF1 := fr1.fa hF
    have e2 : f1 (m + 3) 3 = Int32.ofNat c := (hF1.1 6 (by omega)).trans hv
    rw [if_pos (q_nb_t c9), e1, axB_s, m_gi h0, g1.2.2.1, if_pos rfl, if_pos (show (3 : Int32) ≤ 3 by decide), m_gi h0, g1.2.2.1, if_pos rfl, if_neg (show ¬ (4 : Int32) ≤ 3 by decide), m_gr h0 p15, m_ldr_3 s7 (by omega) (by omega) pr, m_gr h0 p11, m_ld7_3 s3, e2, m_stn sr hv2 (by omega), m_gr h0 p11, m_ld7_3 s3, ax2_n _ _ _ _ (show m + 3 ≠ m + 8 + 3 by omega), e2, m_st7_3 s3, qi_s, hv, qi_tn (by omega)]
    exact qm_sgo hN hm ((g1.n (by omega) (by omega)).n (by omega) (by omega)) (hF1.rw (i := 3) (by omega) hv (by omega)) (by rw [ax2_n _ _ _ _ (by omega), ax2_n _ _ _ _ (by omega), fr1.2 7 (by omega) (by omega) (by omega), hc]) (hr.tr (fr1.rc.tr ((RFm.w _ _ _ (by omega)).tr (RFm.w _ _ _ (by omega)))))
  · obtain ⟨f1, q, e1, g1, fr1⟩ := r.2 fun z => c9 z.2
    rw [if_pos rfl, if_pos rfl] at g1
    rw [if_neg (q_nb_f c9), e1, axB_s, m_gi h0, g1.2.2.1, if_neg (q_nfk_z _ _ _), m_gi h0, g1.2.2.1, if_neg (q_nfk_z _ _ _)]
    exact qm_fl hN hm g1 (q_nfk_z _ _ _) (hr.tr fr1.rc)
theorem qm_r39 {v1 : Int32} (hm : LMo Z m) (h : MT f m t n s 0 pl) (hr : RFm m f0 f) : QMs Z m t n pl cnt f0 (F_X10_clause_39 N m v1 (axM Z f)) (.inl (3, Int32.ofNat s)) := by
  have h0 := hm.1
  obtain ⟨f1, e1, g1, fr1⟩ := qm_wrong (N := N) h0 h 3 (Int32.ofNat s)
  rw [if_pos rfl, if_pos rfl] at g1
  unfold F_X10_clause_39 F_X10_clause_48
  rw [m_gi h0, h.2.1, m_is h0, e1, axBV_s, m_gi h0, g1.2.2.1, if_neg (show ¬ (3 : Int32) = 0 by decide)]
  exact ⟨f1, s, rfl, g1, hr.tr fr1.rc⟩
theorem qm_num2 {p : Nat} (hN : 2000 < N) (hm : LMo Z m) (h : MT f m t n p 0 pl) (hF : FAm f m φ) (hc : f m 7 = Int32.ofNat (cnt + 1)) (hr : RFm m f0 f) : QMs Z m t n pl cnt f0 (ax_is (axM Z f) m 10 <| axB (F_X10_number N m 0 11 (axM Z f)) fun x9 T8 => ax_is T8 m 10 <| axB (F_X10_number N m 0 99 T8) fun x12 T11 => ax_gi T11 m 10 5 fun x13 => if x13 = 0 then (ax_gr T11 m 10 13 fun a14 => ax_st T11 a14 x9 x12 fun T15 => F_X10_clause_106 N m T15) else (F_X10_clause_106 N m T11)) (q_n2 t n p φ) := by
  have h0 := hm.1
  have p13 : axP Z m 13 = some (m + 5) := hm.2.1 13 5 rfl
  have s5 : axL Z (m + 5) = some (1, 12) := hm.2.2.1 5 _ rfl
  have r := qm_number hN hm h 0 11
  unfold F_X10_clause_106 q_n2
  rw [m_is h0]
  by_cases c : q_nok t n p 0 11
  · obtain ⟨f1, e1, g1, fr1⟩ := r.1 ⟨rfl, c⟩
    have r2 := qm_number hN hm g1 0 99
    rw [if_pos (q_nb_t c), e1, axB_s, m_is h0]
    have hb : q_num t n (q_bl t n p) < 12 := by
      have := c.2.2
      rw [show (11 : Int32) = Int32.ofNat 11 from rfl, qi_le (by have := q_num_le t n (q_bl t n p); omega) (by omega)] at this
      omega
    by_cases c2 : q_nok t n (q_dgt t n (q_bl t n p)) 0 99
    · obtain ⟨f2, e2, g2, fr2⟩ := r2.1 ⟨rfl, c2⟩
      rw [if_pos (q_nb_t c2), e2, axB_s, m_gi h0, g2.2.2.1, if_pos rfl, m_gr h0 p13, m_stn s5 hb (by omega)]
      exact qm_sgo hN hm (g2.n (by omega) (by omega)) ((fr2.fa (fr1.fa hF)).hv) (by rw [ax2_n _ _ _ _ (by omega), fr2.2 7 (by omega) (by omega) (by omega), fr1.2 7 (by omega) (by omega) (by omega), hc]) (hr.tr (fr1.rc.tr (fr2.rc.tr (RFm.w _ _ _ (by omega)))))
    · obtain ⟨f2, q, e2, g2, fr2⟩ := r2.2 fun z => c2 z.2
      rw [if_pos rfl, if_pos rfl] at g2
      rw [if_neg (q_nb_f c2), e2, axB_s, m_gi h0, g2.2.2.1, if_neg (q_nfk_z _ _ _)]
      exact qm_fl hN hm g2 (q_nfk_z _ _ _) (hr.tr (fr1.rc.tr fr2.rc))
  · obtain ⟨f1, q, e1, g1, fr1⟩ := r.2 fun z => c z.2
    rw [if_pos rfl, if_pos rfl] at g1
    obtain ⟨f2, q2, e2, g2, fr2⟩ := (qm_number hN hm g1 0 99).2 fun z => q_nfk_z _ _ _ z.1
    rw [if_neg (q_nfk_z _ _ _), if_neg (q_nfk_z _ _ _)] at g2
    rw [if_neg (q_nb_f c), e1, axB_s, m_is h0, e2, axB_s, m_gi h0, g2.2.2.1, if_neg (q_nfk_z _ _ _)]
    exact qm_fl hN hm g2 (q_nfk_z _ _ _) (hr.tr (fr1.rc.tr fr2.rc))
theorem qm_clause (hN : 2000 < N) (hm : LMo Z m) (h : MT f m t n s 0 pl) (hs : q_bl t n s = s) (hF : FAm f m φ) (hw : q_fw φ) (hc : f m 7 = Int32.ofNat cnt) (hc2 : cnt ≤ 60) : QMs Z m t n pl cnt f (F_X10_clause N m (axM Z f)) (q_clause t n s φ cnt) := by
  have h0 := hm.1
  have p11 : axP Z m 11 = some (m + 3) := hm.2.1 11 3 rfl
  have s3 : axL Z (m + 3) = some (1, 7) := hm.2.2.1 3 _ rfl
  obtain ⟨f1, e1, g1, fr1⟩ := qm_kind hN hm h hs
  have hF1 := fr1.fa hF
  have hr1 := fr1.rc
  have hc1 : f1 m 7 = Int32.ofNat cnt := by rw [fr1.2 7 (by omega) (by omega) (by omega), hc]
  obtain ⟨nv, nc, nm, nh, v3, v4, v5, v6, b3, b4, b5, b6⟩ := q_fw_nc hw
  have x3 : f1 (m + 3) 0 = Int32.ofNat nv := (hF1.1 3 (by omega)).trans v3
  have x4 : f1 (m + 3) 1 = Int32.ofNat nc := (hF1.1 4 (by omega)).trans v4
  have x5 : f1 (m + 3) 2 = Int32.ofNat nm := (hF1.1 5 (by omega)).trans v5
  have x6 : f1 (m + 3) 3 = Int32.ofNat nh := (hF1.1 6 (by omega)).trans v6
  have r39 := fun v1 : Int32 => qm_r39 (N := N) (cnt := cnt) (v1 := v1) hm g1 hr1
  obtain ⟨f2, e2, g2, fr2⟩ := qm_skip hN hm g1
  have g3 : MT (ax2 f2 m 7 (Int32.ofNat (cnt + 1))) m t n (q_wrl t n s) 0 pl := g2.j (by omega)
  have hF3 : FAm (ax2 f2 m 7 (Int32.ofNat (cnt + 1))) m φ := (fr2.fa hF1).fr fun i _ => ax2_n _ _ _ _ (by omega)
  have hc3 : ax2 f2 m 7 (Int32.ofNat (cnt + 1)) m 7 = Int32.ofNat (cnt + 1) := ax2_k _ _ _ _
  have hr3 : RFm m f (ax2 f2 m 7 (Int32.ofNat (cnt + 1))) := hr1.tr (fr2.rc.tr ⟨fun x a _ => ax2_n _ _ _ _ a, fun j _ _ _ d => ax2_j _ _ _ _ _ d⟩)
  have e7 : f2 m 7 = Int32.ofNat cnt := by rw [fr2.2 7 (by omega) (by omega) (by omega), hc1]
  have e60 : Int32.ofNat cnt = 60 ↔ cnt = 60 := Iff.of_eq (qi_eq (j := 60) (by omega) (by omega))
  unfold F_X10_clause q_clause
  rw [m_is h0, e1, axB_s]
  unfold q_mk
  have go : ∀ (v1 : Int32) (o : QO), QMs Z m t n pl cnt f (F_X10_clause_48 N m v1 (axM Z f1)) o → True := fun _ _ _ => trivial
  rcases q_W_c t s (q_wrl t n s) with ⟨i, hi, hi1, hi2⟩ | hno
  · have ff : ∀ j, j < 8 → j ≠ i → ¬ q_isw t s (q_wrl t n s) (q_W j) = true := fun j a b c => by
      rw [hi2 j a b] at c
      exact absurd c (by decide)
    match i, hi, hi1, ff with
    | 0, _, hi1, ff =>
      have em : q_mk t s (q_wrl t n s) = 4 := by
        unfold q_mk
        rw [if_neg (ff 4 (by omega) (by omega)), if_neg (ff 5 (by omega) (by omega)), if_neg (ff 6 (by omega) (by omega)), if_neg (ff 7 (by omega) (by omega)), if_pos hi1]
      have ec : q_clause t n s φ cnt = q_ko t n s (q_wrl t n s) φ cnt 0 := by
        unfold q_clause
        rw [if_pos hi1]
      unfold q_mk at em
      unfold q_clause at ec
      rw [em, ec, if_neg (show ¬ (4 : Int32) = -1 by decide), q_ko_0]
      unfold q_fl
      rw [m_gi h0, hc1]
      by_cases cc : cnt = 60
      · rw [if_pos (e60.mpr cc), if_pos (Or.inl (by omega))]
        exact r39 _
      · rw [if_neg (fun q => cc (e60.mp q))]
        unfold F_X10_isFull F_X10_isFull_15 F_X10_isFull_26 F_X10_isFull_37 F_X10_isFull_57
        rw [m_is h0, if_pos (show (4 : Int32) ≤ 4 by decide), if_neg (show ¬ (4 : Int32) = 0 by decide), if_neg (show ¬ (4 : Int32) = 1 by decide), if_neg (show ¬ (4 : Int32) = 2 by decide), if_neg (show ¬ (4 : Int32) = 3 by decide), m_rz0, axB_s, if_pos rfl, if_neg (show ¬ (60 ≤ cnt ∨ False) from fun q => q.elim (by omega) id)]
        unfold F_X10_clause_48
        rw [m_gi h0, g1.2.2.1, if_pos rfl, m_is h0, e2, axBV_s, m_gi h0, e7, m_pi h0, qi_s, if_neg (show ¬ (4 : Int32) = 7 by decide), if_neg (show ¬ (4 : Int32) = 0 by decide), if_neg (show ¬ (4 : Int32) = 3 by decide)]
        exact qm_n4 hN hm g3 hF3 hc3 hr3
    | 1, _, hi1, ff =>
      have em : q_mk t s (q_wrl t n s) = 5 := by
        unfold q_mk
        rw [if_neg (ff 4 (by omega) (by omega)), if_neg (ff 5 (by omega) (by omega)), if_neg (ff 6 (by omega) (by omega)), if_neg (ff 7 (by omega) (by omega)), if_neg (ff 0 (by omega) (by omega)), if_pos hi1]
      have ec : q_clause t n s φ cnt = q_ko t n s (q_wrl t n s) φ cnt 1 := by
        unfold q_clause
        rw [if_neg (ff 0 (by omega) (by omega)), if_pos hi1]
      unfold q_mk at em
      unfold q_clause at ec
      rw [em, ec, if_neg (show ¬ (5 : Int32) = -1 by decide), q_ko_1]
      unfold q_fl
      rw [m_gi h0, hc1]
      by_cases cc : cnt = 60
      · rw [if_pos (e60.mpr cc), if_pos (Or.inl (by omega))]
        exact r39 _
      · rw [if_neg (fun q => cc (e60.mp q))]
        unfold F_X10_isFull F_X10_isFull_15 F_X10_isFull_26 F_X10_isFull_37 F_X10_isFull_57
        rw [m_is h0, if_pos (show (4 : Int32) ≤ 5 by decide), if_neg (show ¬ (5 : Int32) = 0 by decide), if_neg (show ¬ (5 : Int32) = 1 by decide), if_neg (show ¬ (5 : Int32) = 2 by decide), if_neg (show ¬ (5 : Int32) = 3 by decide), m_rz0, axB_s, if_pos rfl, if_neg (show ¬ (60 ≤ cnt ∨ False) from fun q => q.elim (by omega) id)]
        unfold F_X10_clause_48
        rw [m_gi h0, g1.2.2.1, if_pos rfl, m_is h0, e2, axBV_s, m_gi h0, e7, m_pi h0, qi_s, if_neg (show ¬ (5 : Int32) = 7 by decide), if_neg (show ¬ (5 : Int32) = 0 by decide), if_neg (show ¬ (5 : Int32) = 3 by decide)]
        exact qm_n5 hN hm g3 hF3 hc3 hr3
    | 2, _, hi1, ff =>
      have em : q_mk t s (q_wrl t n s) = 6 := by
        unfold q_mk
        rw [if_neg (ff 4 (by omega) (by omega)), if_neg (ff 5 (by omega) (by omega)), if_neg (ff 6 (by omega) (by omega)), if_neg (ff 7 (by omega) (by omega)), if_neg (ff 0 (by omega) (by omega)), if_neg (ff 1 (by omega) (by omega)), if_pos hi1]
      have ec : q_clause t n s φ cnt = q_ko t n s (q_wrl t n s) φ cnt 2 := by
        unfold q_clause
        rw [if_neg (ff 0 (by omega) (by omega)), if_neg (ff 1 (by omega) (by omega)), if_pos hi1]
      unfold q_mk at em
      unfold q_clause at ec
      rw [em, ec, if_neg (show ¬ (6 : Int32) = -1 by decide), q_ko_2]
      unfold q_fl
      rw [m_gi h0, hc1]
      by_cases cc : cnt = 60
      · rw [if_pos (e60.mpr cc), if_pos (Or.inl (by omega))]
        exact r39 _
      · rw [if_neg (fun q => cc (e60.mp q))]
        unfold F_X10_isFull F_X10_isFull_15 F_X10_isFull_26 F_X10_isFull_37 F_X10_isFull_57
        rw [m_is h0, if_pos (show (4 : Int32) ≤ 6 by decide), if_neg (show ¬ (6 : Int32) = 0 by decide), if_neg (show ¬ (6 : Int32) = 1 by decide), if_neg (show ¬ (6 : Int32) = 2 by decide), if_neg (show ¬ (6 : Int32) = 3 by decide), m_rz0, axB_s, if_pos rfl, if_neg (show ¬ (60 ≤ cnt ∨ False) from fun q => q.elim (by omega) id)]
        unfold F_X10_clause_48
        rw [m_gi h0, g1.2.2.1, if_pos rfl, m_is h0, e2, axBV_s, m_gi h0, e7, m_pi h0, qi_s, if_neg (show ¬ (6 : Int32) = 7 by decide), if_neg (show ¬ (6 : Int32) = 0 by decide), if_neg (show ¬ (6 : Int32) = 3 by decide)]
        exact qm_n6 hN hm g3 hF3 hc3 hr3
    | 3, _, hi1, ff =>
      have em : q_mk t s (q_wrl t n s) = 7 := by
        unfold q_mk
        rw [if_neg (ff 4 (by omega) (by omega)), if_neg (ff 5 (by omega) (by omega)), if_neg (ff 6 (by omega) (by omega)), if_neg (ff 7 (by omega) (by omega)), if_neg (ff 0 (by omega) (by omega)), if_neg (ff 1 (by omega) (by omega)), if_neg (ff 2 (by omega) (by omega)), if_pos hi1]
      have ec : q_clause t n s φ cnt = q_ko t n s (q_wrl t n s) φ cnt 3 := by
        unfold q_clause
        rw [if_neg (ff 0 (by omega) (by omega)), if_neg (ff 1 (by omega) (by omega)), if_neg (ff 2 (by omega) (by omega)), if_pos hi1]
      unfold q_mk at em
      unfold q_clause at ec
      rw [em, ec, if_neg (show ¬ (7 : Int32) = -1 by decide), q_ko_3]
      unfold q_fl
      rw [m_gi h0, hc1]
      by_cases cc : cnt = 60
      · rw [if_pos (e60.mpr cc), if_pos (Or.inl (by omega))]
        exact r39 _
      · rw [if_neg (fun q => cc (e60.mp q))]
        unfold F_X10_isFull F_X10_isFull_15 F_X10_isFull_26 F_X10_isFull_37 F_X10_isFull_57
        rw [m_is h0, if_pos (show (4 : Int32) ≤ 7 by decide), if_neg (show ¬ (7 : Int32) = 0 by decide), if_neg (show ¬ (7 : Int32) = 1 by decide), if_neg (show ¬ (7 : Int32) = 2 by decide), if_neg (show ¬ (7 : Int32) = 3 by decide), m_rz0, axB_s, if_pos rfl, if_neg (show ¬ (60 ≤ cnt ∨ False) from fun q => q.elim (by omega) id)]
        unfold F_X10_clause_48
        rw [m_gi h0, g1.2.2.1, if_pos rfl, m_is h0, e2, axBV_s, m_gi h0, e7, m_pi h0, qi_s, if_pos rfl]
        exact qm_num2 hN hm g3 hF3 hc3 hr3
    | 4, _, hi1, ff =>
      have em : q_mk t s (q_wrl t n s) = 0 := by
        unfold q_mk
        rw [if_pos hi1]
      have ec : q_clause t n s φ cnt = q_ko t n s (q_wrl t n s) φ cnt 4 := by
        unfold q_clause
        rw [if_neg (ff 0 (by omega) (by omega)), if_neg (ff 1 (by omega) (by omega)), if_neg (ff 2 (by omega) (by omega)), if_neg (ff 3 (by omega) (by omega)), if_pos hi1]
      unfold q_mk at em
      unfold q_clause at ec
      rw [em, ec, if_neg (show ¬ (0 : Int32) = -1 by decide), q_ko_4]
      unfold q_fl
      rw [m_gi h0, hc1]
      by_cases cc : cnt = 60
      · rw [if_pos (e60.mpr cc), if_pos (Or.inl (by omega))]
        exact r39 _
      · rw [if_neg (fun q => cc (e60.mp q))]
        unfold F_X10_isFull F_X10_isFull_15 F_X10_isFull_26 F_X10_isFull_37 F_X10_isFull_57
        rw [m_is h0, if_neg (show ¬ (4 : Int32) ≤ 0 by decide), m_gr h0 p11, m_ld7_0 s3, x3, if_pos rfl, v3]
        by_cases cf : nv = 6
        · rw [if_pos (show Int32.ofNat nv = 6 by rw [cf]; rfl), m_rz1, axB_s, if_neg (show ¬ (1 : Int32) = 0 by decide), if_pos (show 60 ≤ cnt ∨ Int32.ofNat nv = 6 from Or.inr (by rw [cf]; rfl))]
          exact r39 _
        · rw [if_neg (show ¬ Int32.ofNat nv = 6 from qi_ne (j := 6) cf (by omega) (by omega)), if_neg (show ¬ (0 : Int32) = 1 by decide), if_neg (show ¬ (0 : Int32) = 2 by decide), if_neg (show ¬ (0 : Int32) = 3 by decide), m_rz0, axB_s, if_pos rfl, if_neg (show ¬ (60 ≤ cnt ∨ Int32.ofNat nv = 6) from fun q => q.elim (by omega) (qi_ne (j := 6) cf (by omega) (by omega)))]
          unfold F_X10_clause_48 F_X10_clause_119
          rw [m_gi h0, g1.2.2.1, if_pos rfl, m_is h0, e2, axBV_s, m_gi h0, e7, m_pi h0, qi_s, if_neg (show ¬ (0 : Int32) = 7 by decide), if_pos rfl]
          exact v3 ▸ qm_n0 (c := nv) hN hm g3 hF3 hc3 hr3 v3 (by omega)
    | 5, _, hi1, ff =>
      have em : q_mk t s (q_wrl t n s) = 1 := by
        unfold q_mk
        rw [if_neg (ff 4 (by omega) (by omega)), if_pos hi1]
      have ec : q_clause t n s φ cnt = q_ko t n s (q_wrl t n s) φ cnt 5 := by
        unfold q_clause
        rw [if_neg (ff 0 (by omega) (by omega)), if_neg (ff 1 (by omega) (by omega)), if_neg (ff 2 (by omega) (by omega)), if_neg (ff 3 (by omega) (by omega)), if_neg (ff 4 (by omega) (by omega)), if_pos hi1]
      unfold q_mk at em
      unfold q_clause at ec
      rw [em, ec, if_neg (show ¬ (1 : Int32) = -1 by decide), q_ko_5]
      unfold q_fl
      rw [m_gi h0, hc1]
      by_cases cc : cnt = 60
      · rw [if_pos (e60.mpr cc), if_pos (Or.inl (by omega))]
        exact r39 _
      · rw [if_neg (fun q => cc (e60.mp q))]
        unfold F_X10_isFull F_X10_isFull_15 F_X10_isFull_26 F_X10_isFull_37 F_X10_isFull_57
        rw [m_is h0, if_neg (show ¬ (4 : Int32) ≤ 1 by decide), m_gr h0 p11, m_ld7_1 s3, x4, if_neg (show ¬ (1 : Int32) = 0 by decide), if_pos rfl, v4]
        by_cases cf : nc = 8
        · rw [if_pos (show Int32.ofNat nc = 8 by rw [cf]; rfl), m_rz1, axB_s, if_neg (show ¬ (1 : Int32) = 0 by decide), if_pos (show 60 ≤ cnt ∨ Int32.ofNat nc = 8 from Or.inr (by rw [cf]; rfl))]
          exact r39 _
        · rw [if_neg (show ¬ Int32.ofNat nc = 8 from qi_ne (j := 8) cf (by omega) (by omega)), if_neg (show ¬ (1 : Int32) = 2 by decide), if_neg (show ¬ (1 : Int32) = 3 by decide), m_rz0, axB_s, if_pos rfl, if_neg (show ¬ (60 ≤ cnt ∨ Int32.ofNat nc = 8) from fun q => q.elim (by omega) (qi_ne (j := 8) cf (by omega) (by omega)))]
          unfold F_X10_clause_48
          rw [m_gi h0, g1.2.2.1, if_pos rfl, m_is h0, e2, axBV_s, m_gi h0, e7, m_pi h0, qi_s, if_neg (show ¬ (1 : Int32) = 7 by decide), if_neg (show ¬ (1 : Int32) = 0 by decide), if_neg (show ¬ (1 : Int32) = 3 by decide)]
          exact v4 ▸ qm_n1 (c := nc) hN hm g3 hF3 hc3 hr3 v4 (by omega)
    | 6, _, hi1, ff =>
      have em : q_mk t s (q_wrl t n s) = 2 := by
        unfold q_mk
        rw [if_neg (ff 4 (by omega) (by omega)), if_neg (ff 5 (by omega) (by omega)), if_pos hi1]
      have ec : q_clause t n s φ cnt = q_ko t n s (q_wrl t n s) φ cnt 6 := by
        unfold q_clause
        rw [if_neg (ff 0 (by omega) (by omega)), if_neg (ff 1 (by omega) (by omega)), if_neg (ff 2 (by omega) (by omega)), if_neg (ff 3 (by omega) (by omega)), if_neg (ff 4 (by omega) (by omega)), if_neg (ff 5 (by omega) (by omega)), if_pos hi1]
      unfold q_mk at em
      unfold q_clause at ec
      rw [em, ec, if_neg (show ¬ (2 : Int32) = -1 by decide), q_ko_6]
      unfold q_fl
      rw [m_gi h0, hc1]
      by_cases cc : cnt = 60
      · rw [if_pos (e60.mpr cc), if_pos (Or.inl (by omega))]
        exact r39 _
      · rw [if_neg (fun q => cc (e60.mp q))]
        unfold F_X10_isFull F_X10_isFull_15 F_X10_isFull_26 F_X10_isFull_37 F_X10_isFull_57
        rw [m_is h0, if_neg (show ¬ (4 : Int32) ≤ 2 by decide), m_gr h0 p11, m_ld7_2 s3, x5, if_neg (show ¬ (2 : Int32) = 0 by decide), if_neg (show ¬ (2 : Int32) = 1 by decide), if_pos rfl, m_gr h0 p11, m_ld7_1 s3, x4, m_less, axB_s, v4, v5, q_min8 b4]
        by_cases cf : nm = nc
        · rw [if_pos (show Int32.ofNat nm = Int32.ofNat nc by rw [cf]), m_rz1, axB_s, if_neg (show ¬ (1 : Int32) = 0 by decide), if_pos (show 60 ≤ cnt ∨ Int32.ofNat nm = Int32.ofNat nc from Or.inr (by rw [cf]))]
          exact r39 _
        · rw [if_neg (qi_ne cf (by omega) (by omega)), if_neg (show ¬ (2 : Int32) = 3 by decide), m_rz0, axB_s, if_pos rfl, if_neg (show ¬ (60 ≤ cnt ∨ Int32.ofNat nm = Int32.ofNat nc) from fun q => q.elim (by omega) (qi_ne cf (by omega) (by omega)))]
          unfold F_X10_clause_48
          rw [m_gi h0, g1.2.2.1, if_pos rfl, m_is h0, e2, axBV_s, m_gi h0, e7, m_pi h0, qi_s, if_neg (show ¬ (2 : Int32) = 7 by decide), if_neg (show ¬ (2 : Int32) = 0 by decide), if_neg (show ¬ (2 : Int32) = 3 by decide)]
          exact v5 ▸ qm_n2 (c := nm) hN hm g3 hF3 hc3 hr3 v5 (by omega)
    | 7, _, hi1, ff =>
      have em : q_mk t s (q_wrl t n s) = 3 := by
        unfold q_mk
        rw [if_neg (ff 4 (by omega) (by omega)), if_neg (ff 5 (by omega) (by omega)), if_neg (ff 6 (by omega) (by omega)), if_pos hi1]
      have ec : q_clause t n s φ cnt = q_ko t n s (q_wrl t n s) φ cnt 7 := by
        unfold q_clause
        rw [if_neg (ff 0 (by omega) (by omega)), if_neg (ff 1 (by omega) (by omega)), if_neg (ff 2 (by omega) (by omega)), if_neg (ff 3 (by omega) (by omega)), if_neg (ff 4 (by omega) (by omega)), if_neg (ff 5 (by omega) (by omega)), if_neg (ff 6 (by omega) (by omega)), if_pos hi1]
      unfold q_mk at em
      unfold q_clause at ec
      rw [em, ec, if_neg (show ¬ (3 : Int32) = -1 by decide), q_ko_7]
      unfold q_fl
      rw [m_gi h0, hc1]
      by_cases cc : cnt = 60
      · rw [if_pos (e60.mpr cc), if_pos (Or.inl (by omega))]
        exact r39 _
      · rw [if_neg (fun q => cc (e60.mp q))]
        unfold F_X10_isFull F_X10_isFull_15 F_X10_isFull_26 F_X10_isFull_37 F_X10_isFull_57
        rw [m_is h0, if_neg (show ¬ (4 : Int32) ≤ 3 by decide), m_gr h0 p11, m_ld7_3 s3, x6, if_neg (show ¬ (3 : Int32) = 0 by decide), if_neg (show ¬ (3 : Int32) = 1 by decide), if_neg (show ¬ (3 : Int32) = 2 by decide), if_pos rfl, v6]
        by_cases cf : nh = 4
        · rw [if_pos (show Int32.ofNat nh = 4 by rw [cf]; rfl), m_rz1, axB_s, if_neg (show ¬ (1 : Int32) = 0 by decide), if_pos (show 60 ≤ cnt ∨ Int32.ofNat nh = 4 from Or.inr (by rw [cf]; rfl))]
          exact r39 _
        · rw [if_neg (show ¬ Int32.ofNat nh = 4 from qi_ne (j := 4) cf (by omega) (by omega)), m_rz0, axB_s, if_pos rfl, if_neg (show ¬ (60 ≤ cnt ∨ Int32.ofNat nh = 4) from fun q => q.elim (by omega) (qi_ne (j := 4) cf (by omega) (by omega)))]
          unfold F_X10_clause_48 F_X10_clause_119
          rw [m_gi h0, g1.2.2.1, if_pos rfl, m_is h0, e2, axBV_s, m_gi h0, e7, m_pi h0, qi_s, if_neg (show ¬ (3 : Int32) = 7 by decide), if_neg (show ¬ (3 : Int32) = 0 by decide), if_pos rfl]
          exact v6 ▸ qm_n3 (c := nh) hN hm g3 hF3 hc3 hr3 v6 (by omega)
    | _ + 8, hi, _, _ => exact absurd hi (by omega)
  · have ff : ∀ j, j < 8 → ¬ q_isw t s (q_wrl t n s) (q_W j) = true := fun j a c => by
      rw [hno j a] at c
      exact absurd c (by decide)
    rw [if_neg (ff 4 (by omega)), if_neg (ff 5 (by omega)), if_neg (ff 6 (by omega)), if_neg (ff 7 (by omega)), if_neg (ff 0 (by omega)), if_neg (ff 1 (by omega)), if_neg (ff 2 (by omega)), if_neg (ff 3 (by omega)), if_pos rfl, m_gi h0, g1.2.1, m_is h0]
    obtain ⟨f4, e4, g4, fr4⟩ := qm_wrong (N := N) h0 g1 1 (Int32.ofNat s)
    rw [if_pos rfl, if_pos rfl] at g4
    unfold F_X10_clause_48
    rw [e4, axBV_s, m_gi h0, g4.2.2.1, if_neg (show ¬ (1 : Int32) = 0 by decide)]
    rw [if_neg (ff 0 (by omega)), if_neg (ff 1 (by omega)), if_neg (ff 2 (by omega)), if_neg (ff 3 (by omega)), if_neg (ff 4 (by omega)), if_neg (ff 5 (by omega)), if_neg (ff 6 (by omega)), if_neg (ff 7 (by omega))]
    exact ⟨f4, s, rfl, g4, hr1.tr fr4.rc⟩
end
