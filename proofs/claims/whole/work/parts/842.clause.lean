/-! texts: one clause -/
abbrev QO : Type := Sum (Int32 × Int32) (QF × Nat)
def q_nb (t : QR) (n p : Nat) (lo hi : Int32) : Bool := q_isD (q_B t n (q_bl t n p)) && (decide (lo ≤ Int32.ofNat (q_num t n (q_bl t n p))) && decide (Int32.ofNat (q_num t n (q_bl t n p)) ≤ hi))
theorem q_nb_t {t : QR} {n p : Nat} {lo hi : Int32} (h : q_nok t n p lo hi) : q_nb t n p lo hi = true := by
  unfold q_nb
  rw [h.1, decide_eq_true h.2.1, decide_eq_true h.2.2]
  rfl
theorem q_nb_f {t : QR} {n p : Nat} {lo hi : Int32} (h : ¬ q_nok t n p lo hi) : ¬ q_nb t n p lo hi = true := fun q => h (by
  unfold q_nb at q
  rw [Bool.and_eq_true, Bool.and_eq_true] at q
  exact ⟨q.1, of_decide_eq_true q.2.1, of_decide_eq_true q.2.2⟩)
def q_sgo (t : QR) (n p : Nat) (φ : QF) : QO := if q_B t n (q_bl t n p) = 59 then .inr (φ, q_bl t n p + 1) else .inl (1, Int32.ofNat (q_bl t n p))
def q_n1 (t : QR) (n e : Nat) (lo hi : Int32) (U : Nat → QF) : QO := if q_nb t n e lo hi = true then q_sgo t n (q_dgt t n (q_bl t n e)) (U (q_num t n (q_bl t n e))) else .inl (q_nfk t n e, Int32.ofNat (q_bl t n e))
def q_n2 (t : QR) (n e : Nat) (φ : QF) : QO := if q_nb t n e 0 11 = true then (if q_nb t n (q_dgt t n (q_bl t n e)) 0 99 = true then q_sgo t n (q_dgt t n (q_bl t n (q_dgt t n (q_bl t n e)))) (q_f2 φ 1 (q_num t n (q_bl t n e)) (Int32.ofNat (q_num t n (q_bl t n (q_dgt t n (q_bl t n e)))))) else .inl (q_nfk t n (q_dgt t n (q_bl t n e)), Int32.ofNat (q_bl t n (q_dgt t n (q_bl t n e))))) else .inl (q_nfk t n e, Int32.ofNat (q_bl t n e))
def q_fl (b : Prop) [Decidable b] (cnt s : Nat) (o : QO) : QO := if 60 ≤ cnt ∨ b then .inl (3, Int32.ofNat s) else o
def q_ko (t : QR) (n s e : Nat) (φ : QF) (cnt i : Nat) : QO := match i with
  | 0 => q_fl False cnt s (q_n1 t n e 0 9999 fun x => q_f2 φ 0 0 (Int32.ofNat x))
  | 1 => q_fl False cnt s (q_n1 t n e 0 20 fun x => q_f2 φ 0 1 (Int32.ofNat x))
  | 2 => q_fl False cnt s (q_n1 t n e 0 999 fun x => q_f2 φ 0 2 (Int32.ofNat x))
  | 3 => q_fl False cnt s (q_n2 t n e φ)
  | 4 => q_fl (φ 0 3 = 6) cnt s (q_n1 t n e 1 20 fun x => q_f3 φ 0 (φ 0 (3 + 0)).toNatClampNeg (Int32.ofNat x))
  | 5 => q_fl (φ 0 4 = 8) cnt s (q_n1 t n e 0 9 fun x => q_f3 φ 1 (φ 0 (3 + 1)).toNatClampNeg (Int32.ofNat x))
  | 6 => q_fl (φ 0 5 = q_min 8 (φ 0 4)) cnt s (q_n1 t n e 0 40 fun x => q_f3 φ 2 (φ 0 (3 + 2)).toNatClampNeg (Int32.ofNat x))
  | 7 => q_fl (φ 0 6 = 4) cnt s (q_n1 t n e 1 99 fun x => q_f3 φ 3 (φ 0 (3 + 3)).toNatClampNeg (Int32.ofNat x))
  | _ => .inl (1, Int32.ofNat s)

theorem q_ko_0 (t : QR) (n s e : Nat) (φ : QF) (cnt : Nat) : q_ko t n s e φ cnt 0 = q_fl False cnt s (q_n1 t n e 0 9999 fun x => q_f2 φ 0 0 (Int32.ofNat x)) := rfl
theorem q_ko_1 (t : QR) (n s e : Nat) (φ : QF) (cnt : Nat) : q_ko t n s e φ cnt 1 = q_fl False cnt s (q_n1 t n e 0 20 fun x => q_f2 φ 0 1 (Int32.ofNat x)) := rfl
theorem q_ko_2 (t : QR) (n s e : Nat) (φ : QF) (cnt : Nat) : q_ko t n s e φ cnt 2 = q_fl False cnt s (q_n1 t n e 0 999 fun x => q_f2 φ 0 2 (Int32.ofNat x)) := rfl
theorem q_ko_3 (t : QR) (n s e : Nat) (φ : QF) (cnt : Nat) : q_ko t n s e φ cnt 3 = q_fl False cnt s (q_n2 t n e φ) := rfl
theorem q_ko_4 (t : QR) (n s e : Nat) (φ : QF) (cnt : Nat) : q_ko t n s e φ cnt 4 = q_fl (φ 0 3 = 6) cnt s (q_n1 t n e 1 20 fun x => q_f3 φ 0 (φ 0 (3 + 0)).toNatClampNeg (Int32.ofNat x)) := rfl
theorem q_ko_5 (t : QR) (n s e : Nat) (φ : QF) (cnt : Nat) : q_ko t n s e φ cnt 5 = q_fl (φ 0 4 = 8) cnt s (q_n1 t n e 0 9 fun x => q_f3 φ 1 (φ 0 (3 + 1)).toNatClampNeg (Int32.ofNat x)) := rfl
theorem q_ko_6 (t : QR) (n s e : Nat) (φ : QF) (cnt : Nat) : q_ko t n s e φ cnt 6 = q_fl (φ 0 5 = q_min 8 (φ 0 4)) cnt s (q_n1 t n e 0 40 fun x => q_f3 φ 2 (φ 0 (3 + 2)).toNatClampNeg (Int32.ofNat x)) := rfl
theorem q_ko_7 (t : QR) (n s e : Nat) (φ : QF) (cnt : Nat) : q_ko t n s e φ cnt 7 = q_fl (φ 0 6 = 4) cnt s (q_n1 t n e 1 99 fun x => q_f3 φ 3 (φ 0 (3 + 3)).toNatClampNeg (Int32.ofNat x)) := rfl
theorem q_nfk_z (t : QR) (n p : Nat) : q_nfk t n p ≠ 0 := by
  unfold q_nfk
  split <;> decide
def RFc (u sf : Nat) (f f' : Nat → Nat → Int32) : Prop := (∀ x, x ≠ u → ¬ (sf ≤ x ∧ x ≤ sf + 5) → f' x = f x) ∧ f' u 1 = f u 1
theorem RFc.tr {u sf : Nat} {f g h : Nat → Nat → Int32} (h1 : RFc u sf f g) (h2 : RFc u sf g h) : RFc u sf f h := ⟨fun x a b => by rw [h2.1 x a b, h1.1 x a b], by rw [h2.2, h1.2]⟩
theorem CFr.rc {u : Nat} {f g : Nat → Nat → Int32} (h : CFr f g u) (sf : Nat) : RFc u sf f g := ⟨fun x a _ => h.1 x a, h.2⟩
theorem RFc.w {u sf : Nat} (f : Nat → Nat → Int32) {a : Nat} (k : Nat) (v : Int32) (hd : u + 1 < sf) (ha : sf ≤ a ∧ a ≤ sf + 5) : RFc u sf f (ax2 f a k v) := ⟨fun x _ b => ax2_n _ _ _ _ (by omega), by rw [ax2_n _ _ _ _ (by omega)]⟩
theorem RFc.p {u sf : Nat} (f : Nat → Nat → Int32) {a : Nat} (len : Nat) (i v : Int32) (hd : u + 1 < sf) (ha : sf ≤ a ∧ a ≤ sf + 5) : RFc u sf f (q_put f a len i v) := ⟨fun x _ b => q_put_n (by omega), by rw [q_put_n (by omega)]⟩
theorem RFc.ct {u n p : Nat} {f g : Nat → Nat → Int32} {t : QR} {k pl : Int32} (h : CT f u t n p k pl) (e : g u = f u) (e1 : g (u + 1) = f (u + 1)) : CT g u t n p k pl := by
  unfold CT at h ⊢
  rw [e, e1]
  exact h
theorem CFr.fa {u sf : Nat} {f g : Nat → Nat → Int32} (h : CFr f g u) {φ : QF} (hd : u + 1 < sf) (hF : FAc f sf φ) : FAc g sf φ := hF.fr fun i _ => h.1 _ (by omega)
theorem FAc.sc {f : Nat → Nat → Int32} {a k : Nat} {φ : QF} {v : Int32} (h : FAc f a φ) (hk : k < 3) : FAc (ax2 f a k v) a (q_f2 φ 0 k v) := by
  unfold FAc
  rw [ax2_n _ _ _ _ (show a + 1 ≠ a by omega), show (fun i => ax2 f a k v (a + 2 + i)) = fun i => f (a + 2 + i) from funext fun i => ax2_n _ _ _ _ (by omega)]
  exact FA.sc h hk fun j _ => ax2_a _ _ _ _ _
theorem FAc.hv {f : Nat → Nat → Int32} {a k : Nat} {φ : QF} {v : Int32} (h : FAc f a φ) : FAc (ax2 f (a + 1) k v) a (q_f2 φ 1 k v) := by
  unfold FAc
  rw [ax2_n _ _ _ _ (show a ≠ a + 1 by omega), show (fun i => ax2 f (a + 1) k v (a + 2 + i)) = fun i => f (a + 2 + i) from funext fun i => ax2_n _ _ _ _ (by omega)]
  exact FA.hv h fun j _ => ax2_a _ _ _ _ _
theorem FAc.rw {f : Nat → Nat → Int32} {a i c : Nat} {φ : QF} {v : Int32} (h : FAc f a φ) (hi : i < 4) (hc : φ 0 (3 + i) = Int32.ofNat c) (hc2 : c < 100) : FAc (ax2 (ax2 f (a + 2 + i) c v) a (3 + i) (Int32.ofNat (c + 1))) a (q_f3 φ i c v) := by
  unfold FAc
  rw [ax2_n _ _ _ _ (show a + 1 ≠ a by omega), ax2_n _ _ _ _ (show a + 1 ≠ a + 2 + i by omega)]
  refine FA.rw h hi hc hc2 (fun j _ => ?_) (fun j hj k => ?_)
  · rw [ax2_a, ax2_n _ _ _ _ (show a ≠ a + 2 + i by omega)]
  · rw [ax2_n _ _ _ _ (show a + 2 + j ≠ a by omega)]
    by_cases e : j = i
    · rw [e, ax2_a]
      by_cases e2 : k = c
      · rw [if_pos e2, if_pos ⟨rfl, e2⟩]
      · rw [if_neg e2, if_neg fun q => e2 q.2]
    · rw [ax2_n _ _ _ _ (by omega), if_neg fun q => e q.1]
section
variable {Z : AxS} {u sf N n s e : Nat} {f f0 : Nat → Nat → Int32} {t : QR} {pl : Int32} {φ : QF}
def QCs (Z : AxS) (u sf : Nat) (t : QR) (n : Nat) (pl : Int32) (f : Nat → Nat → Int32) (r : Option (Int32 × AxS)) (o : QO) : Prop := match o with
  | .inl z => ∃ f' q, r = some (0, axM Z f') ∧ CT f' u t n q z.1 z.2 ∧ RFc u sf f f'
  | .inr z => ∃ f', r = some (1, axM Z f') ∧ CT f' u t n z.2 0 pl ∧ FAc f' sf z.1 ∧ RFc u sf f f'
theorem qc_sg {p : Nat} (hN : 2000 < N) (hu : LTa Z u) (hd : u + 1 < sf) (h : CT f u t n p 0 pl) (hF : FAc f sf φ) (hr : RFc u sf f0 f) : QCs Z u sf t n pl f0 (axB (F_X7_takes N u 59 (axM Z f)) fun x14 T13 => ax_rz x14 (some (x14, T13))) (q_sgo t n p φ) := by
  have r := qc_takes hN hu h (c := 59) (by decide)
  unfold q_sgo
  by_cases c : q_B t n (q_bl t n p) = 59
  · obtain ⟨f1, e1, g1, fr1⟩ := r.1 ⟨rfl, c⟩
    rw [if_pos c, e1, axB_s, m_rz1]
    exact ⟨f1, rfl, g1, fr1.fa hd hF, hr.tr (fr1.rc sf)⟩
  · obtain ⟨f1, q, e1, g1, fr1⟩ := r.2 fun z => c z.2
    rw [if_neg c, e1, axB_s, m_rz0]
    exact ⟨f1, q, rfl, g1, hr.tr (fr1.rc sf)⟩
theorem qc_fl {p : Nat} {k w : Int32} (hN : 2000 < N) (hu : LTa Z u) (h : CT f u t n p k w) (hk : k ≠ 0) (hr : RFc u sf f0 f) : QCs Z u sf t n pl f0 (axB (F_X7_takes N u 59 (axM Z f)) fun x14 T13 => ax_rz x14 (some (x14, T13))) (.inl (k, w)) := by
  obtain ⟨f1, q, e1, g1, fr1⟩ := (qc_takes hN hu h (c := 59) (by decide)).2 fun z => hk z.1
  rw [if_neg hk, if_neg hk] at g1
  rw [e1, axB_s, m_rz0]
  exact ⟨f1, q, rfl, g1, hr.tr (fr1.rc sf)⟩
theorem qc_num1 {p : Nat} {lo hi : Int32} (hhi : hi < 100000) (hN : 2000 < N) (hu : LTa Z u) (hf : axL Z sf = some (0, 1)) (hd : u + 1 < sf) {K : Int32 → AxS → Option AxS} {W : Int32 → (Nat → Nat → Int32) → Nat → Nat → Int32} (hK : ∀ x g, K x (axM Z g) = some (axM Z (W x g))) (hW : ∀ x g y, ¬ (sf ≤ y ∧ y ≤ sf + 5) → W x g y = g y) {U : Nat → QF} (hU : ∀ g, FAc g sf φ → q_nok t n p lo hi → FAc (W (Int32.ofNat (q_num t n (q_bl t n p))) g) sf (U (q_num t n (q_bl t n p)))) (h : CT f u t n p 0 pl) (hF : FAc f sf φ) (hr : RFc u sf f0 f) : QCs Z u sf t n pl f0 (axBV (axB (F_X7_number N u lo hi (axM Z f)) K) fun T10 => ax_is T10 u 7 <| axB (F_X7_takes N u 59 T10) fun x14 T13 => ax_rz x14 (some (x14, T13))) (q_n1 t n p lo hi U) := by
  have h0 := hu.1
  have r := qc_number hN hu h (lo := lo) hhi
  have w : ∀ x g p k pl, CT g u t n p k pl → CT (W x g) u t n p k pl := fun x g p k pl hg => RFc.ct hg (hW x g u (by omega)) (hW x g (u + 1) (by omega))
  have wr : ∀ x g, RFc u sf g (W x g) := fun x g => ⟨fun y _ b => hW x g y b, by rw [hW x g u (by omega)]⟩
  unfold q_n1
  by_cases c : q_nok t n p lo hi
  · obtain ⟨f1, e1, g1, -, fr1⟩ := r.1 ⟨rfl, c⟩
    rw [if_pos (q_nb_t c), e1, axB_s, hK, axBV_s, m_is h0]
    exact qc_sg hN hu hd (w _ _ _ _ _ g1) (hU f1 (fr1.fa hd hF) c) (hr.tr ((fr1.rc sf).tr (wr _ _)))
  · obtain ⟨f1, q, x, e1, -, g1, fr1⟩ := r.2 fun z => c z.2
    rw [if_pos rfl, if_pos rfl] at g1
    rw [if_neg (q_nb_f c), e1, axB_s, hK, axBV_s, m_is h0]
    exact qc_fl hN hu (w _ _ _ _ _ g1) (q_nfk_z _ _ _) (hr.tr ((fr1.rc sf).tr (wr _ _)))
theorem qc_num2 {p : Nat} (hN : 2000 < N) (hu : LTa Z u) (hf : LFa Z sf) (hd : u + 1 < sf) (h : CT f u t n p 0 pl) (hF : FAc f sf φ) (hr : RFc u sf f0 f) : QCs Z u sf t n pl f0 (axBV (F_X1_readNumbers N sf u 4 (axM Z f)) fun T10 => ax_is T10 u 7 <| axB (F_X7_takes N u 59 T10) fun x14 T13 => ax_rz x14 (some (x14, T13))) (q_n2 t n p φ) := by
  have h0 := hu.1
  obtain ⟨hf0, ⟨hf1, hf2⟩, -⟩ := hf
  have r := qc_number hN hu h (lo := 0) (hi := 11) (by decide)
  have pw : ∀ i v (g : Nat → Nat → Int32), (∀ q k pl, CT g u t n q k pl → CT (q_put g (sf + 1) 12 i v) u t n q k pl) ∧ RFc u sf g (q_put g (sf + 1) 12 i v) := fun i v g => ⟨fun q k pl hg => RFc.ct hg (q_put_n (by omega)) (q_put_n (by omega)), RFc.p _ _ _ _ hd (by omega)⟩
  unfold F_X1_readNumbers q_n2
  rw [if_neg (show ¬ (4 : Int32) = 1 by decide), if_neg (show ¬ (4 : Int32) = 2 by decide), if_neg (show ¬ (4 : Int32) = 3 by decide), if_pos rfl, m_is h0]
  by_cases c : q_nok t n p 0 11
  · obtain ⟨f1, e1, g1, -, fr1⟩ := r.1 ⟨rfl, c⟩
    have r2 := qc_number hN hu g1 (lo := 0) (hi := 99) (by decide)
    rw [if_pos (q_nb_t c), e1, axB_s, m_gr hf0 hf1, m_is h0]
    have hb : q_num t n (q_bl t n p) < 12 := by
      have := c.2.2
      rw [show (11 : Int32) = Int32.ofNat 11 from rfl, qi_le (by have := q_num_le t n (q_bl t n p); omega) (by omega)] at this
      omega
    by_cases c2 : q_nok t n (q_dgt t n (q_bl t n p)) 0 99
    · obtain ⟨f2, e2, g2, -, fr2⟩ := r2.1 ⟨rfl, c2⟩
      rw [if_pos (q_nb_t c2), e2, axB_s, m_put N hf2 (by omega), axBV_s, axBV_s, m_is h0]
      have hF2 := (fr2.fa hd (fr1.fa hd hF)).hv (k := q_num t n (q_bl t n p)) (v := Int32.ofNat (q_num t n (q_bl t n (q_dgt t n (q_bl t n p)))))
      rw [← q_putn f2 (sf + 1) _ (show q_num t n (q_bl t n p) < 12 from hb) (by omega)] at hF2
      exact qc_sg hN hu hd ((pw _ _ _).1 _ _ _ g2) hF2 (hr.tr ((fr1.rc sf).tr ((fr2.rc sf).tr (pw _ _ _).2)))
    · obtain ⟨f2, q, x, e2, -, g2, fr2⟩ := r2.2 fun z => c2 z.2
      rw [if_pos rfl, if_pos rfl] at g2
      rw [if_neg (q_nb_f c2), e2, axB_s, m_put N hf2 (by omega), axBV_s, axBV_s, m_is h0]
      exact qc_fl hN hu ((pw _ _ _).1 _ _ _ g2) (q_nfk_z _ _ _) (hr.tr ((fr1.rc sf).tr ((fr2.rc sf).tr (pw _ _ _).2)))
  · obtain ⟨f1, q, x, e1, -, g1, fr1⟩ := r.2 fun z => c z.2
    rw [if_pos rfl, if_pos rfl] at g1
    obtain ⟨f2, q2, x2, e2, -, g2, fr2⟩ := (qc_number hN hu g1 (lo := 0) (hi := 99) (by decide)).2 fun z => q_nfk_z _ _ _ z.1
    rw [if_neg (q_nfk_z _ _ _), if_neg (q_nfk_z _ _ _)] at g2
    rw [if_neg (q_nb_f c), e1, axB_s, m_gr hf0 hf1, m_is h0, e2, axB_s, m_put N hf2 (by omega), axBV_s, axBV_s, m_is h0]
    exact qc_fl hN hu ((pw _ _ _).1 _ _ _ g2) (q_nfk_z _ _ _) (hr.tr ((fr1.rc sf).tr ((fr2.rc sf).tr (pw _ _ _).2)))
theorem qc_rn1 {p : Nat} (hN : 2000 < N) (hu : LTa Z u) (hf : LFa Z sf) (hd : u + 1 < sf) (h : CT f u t n p 0 pl) (hF : FAc f sf φ) (hr : RFc u sf f0 f) : QCs Z u sf t n pl f0 (axBV (F_X1_readNumbers N sf u 1 (axM Z f)) fun T10 => ax_is T10 u 7 <| axB (F_X7_takes N u 59 T10) fun x14 T13 => ax_rz x14 (some (x14, T13))) (q_n1 t n p 0 9999 fun x => q_f2 φ 0 0 (Int32.ofNat x)) := by
  unfold F_X1_readNumbers
  rw [if_pos rfl, m_is hu.1]
  exact qc_num1 (by decide) hN hu hf.1 hd (W := fun x g => ax2 g sf 0 x) (fun x g => m_pi hf.1) (fun x g y hy => ax2_n _ _ _ _ (by omega)) (fun g hg _ => hg.sc (by omega)) h hF hr
theorem qc_rn2 {p : Nat} (hN : 2000 < N) (hu : LTa Z u) (hf : LFa Z sf) (hd : u + 1 < sf) (h : CT f u t n p 0 pl) (hF : FAc f sf φ) (hr : RFc u sf f0 f) : QCs Z u sf t n pl f0 (axBV (F_X1_readNumbers N sf u 2 (axM Z f)) fun T10 => ax_is T10 u 7 <| axB (F_X7_takes N u 59 T10) fun x14 T13 => ax_rz x14 (some (x14, T13))) (q_n1 t n p 0 20 fun x => q_f2 φ 0 1 (Int32.ofNat x)) := by
  unfold F_X1_readNumbers
  rw [if_neg (show ¬ (2 : Int32) = 1 by decide), if_pos rfl, m_is hu.1]
  exact qc_num1 (by decide) hN hu hf.1 hd (W := fun x g => ax2 g sf 1 x) (fun x g => m_pi hf.1) (fun x g y hy => ax2_n _ _ _ _ (by omega)) (fun g hg _ => hg.sc (by omega)) h hF hr
theorem qc_rn3 {p : Nat} (hN : 2000 < N) (hu : LTa Z u) (hf : LFa Z sf) (hd : u + 1 < sf) (h : CT f u t n p 0 pl) (hF : FAc f sf φ) (hr : RFc u sf f0 f) : QCs Z u sf t n pl f0 (axBV (F_X1_readNumbers N sf u 3 (axM Z f)) fun T10 => ax_is T10 u 7 <| axB (F_X7_takes N u 59 T10) fun x14 T13 => ax_rz x14 (some (x14, T13))) (q_n1 t n p 0 999 fun x => q_f2 φ 0 2 (Int32.ofNat x)) := by
  unfold F_X1_readNumbers
  rw [if_neg (show ¬ (3 : Int32) = 1 by decide), if_neg (show ¬ (3 : Int32) = 2 by decide), if_pos rfl, m_is hu.1]
  exact qc_num1 (by decide) hN hu hf.1 hd (W := fun x g => ax2 g sf 2 x) (fun x g => m_pi hf.1) (fun x g y hy => ax2_n _ _ _ _ (by omega)) (fun g hg _ => hg.sc (by omega)) h hF hr
theorem qc_rn5 {p c : Nat} (hN : 2000 < N) (hu : LTa Z u) (hf : LFa Z sf) (hd : u + 1 < sf) (h : CT f u t n p 0 pl) (hF : FAc f sf φ) (hr : RFc u sf f0 f) (hc : φ 0 3 = Int32.ofNat c) (hc2 : c < 6) : QCs Z u sf t n pl f0 (axBV (F_X1_readNumbers N sf u 5 (axM Z f)) fun T10 => ax_is T10 u 7 <| axB (F_X7_takes N u 59 T10) fun x14 T13 => ax_rz x14 (some (x14, T13))) (q_n1 t n p 1 20 fun x => q_f3 φ 0 (φ 0 (3 + 0)).toNatClampNeg (Int32.ofNat x)) := by
  obtain ⟨p1, p2⟩ := hf.2.2.1
  have ec : f sf 3 = Int32.ofNat c := (hF.1 3 (by omega)).trans hc
  unfold F_X1_readNumbers
  rw [if_neg (show ¬ (5 : Int32) = 1 by decide), if_neg (show ¬ (5 : Int32) = 2 by decide), if_neg (show ¬ (5 : Int32) = 3 by decide), if_neg (show ¬ (5 : Int32) = 4 by decide), if_pos rfl, m_gr hf.1 p1, m_gi hf.1, ec, m_is hu.1]
  refine qc_num1 (by decide) hN hu hf.1 hd (W := fun x g => ax2 (q_put g (sf + 2) 6 (Int32.ofNat c) x) sf 3 (q_put g (sf + 2) 6 (Int32.ofNat c) x sf 3 + 1)) (fun x g => ?_) (fun x g y hy => ?_) (fun g hg _ => ?_) h hF hr
  · rw [m_put N p2 (by omega), axBV_s, m_gi hf.1, m_pi hf.1]
  · rw [ax2_n _ _ _ _ (by omega), q_put_n (by omega)]
  · have e2 : g sf 3 = Int32.ofNat c := (hg.1 3 (by omega)).trans hc
    rw [q_putn _ _ _ hc2 (by omega), ax2_n _ _ _ _ (show sf ≠ sf + 2 by omega), e2, qi_s, hc, qi_tn (by omega)]
    exact hg.rw (i := 0) (by omega) hc (by omega)
theorem qc_rn6 {p c : Nat} (hN : 2000 < N) (hu : LTa Z u) (hf : LFa Z sf) (hd : u + 1 < sf) (h : CT f u t n p 0 pl) (hF : FAc f sf φ) (hr : RFc u sf f0 f) (hc : φ 0 4 = Int32.ofNat c) (hc2 : c < 8) : QCs Z u sf t n pl f0 (axBV (F_X1_readNumbers N sf u 6 (axM Z f)) fun T10 => ax_is T10 u 7 <| axB (F_X7_takes N u 59 T10) fun x14 T13 => ax_rz x14 (some (x14, T13))) (q_n1 t n p 0 9 fun x => q_f3 φ 1 (φ 0 (3 + 1)).toNatClampNeg (Int32.ofNat x)) := by
  obtain ⟨p1, p2⟩ := hf.2.2.2.1
  have ec : f sf 4 = Int32.ofNat c := (hF.1 4 (by omega)).trans hc
  unfold F_X1_readNumbers
  rw [if_neg (show ¬ (6 : Int32) = 1 by decide), if_neg (show ¬ (6 : Int32) = 2 by decide), if_neg (show ¬ (6 : Int32) = 3 by decide), if_neg (show ¬ (6 : Int32) = 4 by decide), if_neg (show ¬ (6 : Int32) = 5 by decide), if_pos rfl, m_gr hf.1 p1, m_gi hf.1, ec, m_is hu.1]
  refine qc_num1 (by decide) hN hu hf.1 hd (W := fun x g => ax2 (q_put g (sf + 3) 8 (Int32.ofNat c) x) sf 4 (q_put g (sf + 3) 8 (Int32.ofNat c) x sf 4 + 1)) (fun x g => ?_) (fun x g y hy => ?_) (fun g hg _ => ?_) h hF hr
  · rw [m_put N p2 (by omega), axBV_s, m_gi hf.1, m_pi hf.1]
  · rw [ax2_n _ _ _ _ (by omega), q_put_n (by omega)]
  · have e2 : g sf 4 = Int32.ofNat c := (hg.1 4 (by omega)).trans hc
    rw [q_putn _ _ _ hc2 (by omega), ax2_n _ _ _ _ (show sf ≠ sf + 3 by omega), e2, qi_s, hc, qi_tn (by omega)]
    exact hg.rw (i := 1) (by omega) hc (by omega)
theorem qc_rn7 {p c : Nat} (hN : 2000 < N) (hu : LTa Z u) (hf : LFa Z sf) (hd : u + 1 < sf) (h : CT f u t n p 0 pl) (hF : FAc f sf φ) (hr : RFc u sf f0 f) (hc : φ 0 5 = Int32.ofNat c) (hc2 : c < 8) : QCs Z u sf t n pl f0 (axBV (F_X1_readNumbers N sf u 7 (axM Z f)) fun T10 => ax_is T10 u 7 <| axB (F_X7_takes N u 59 T10) fun x14 T13 => ax_rz x14 (some (x14, T13))) (q_n1 t n p 0 40 fun x => q_f3 φ 2 (φ 0 (3 + 2)).toNatClampNeg (Int32.ofNat x)) := by
  obtain ⟨p1, p2⟩ := hf.2.2.2.2.1
  have ec : f sf 5 = Int32.ofNat c := (hF.1 5 (by omega)).trans hc
  unfold F_X1_readNumbers
  rw [if_neg (show ¬ (7 : Int32) = 1 by decide), if_neg (show ¬ (7 : Int32) = 2 by decide), if_neg (show ¬ (7 : Int32) = 3 by decide), if_neg (show ¬ (7 : Int32) = 4 by decide), if_neg (show ¬ (7 : Int32) = 5 by decide), if_neg (show ¬ (7 : Int32) = 6 by decide), if_pos rfl, m_gr hf.1 p1, m_gi hf.1, ec, m_is hu.1]
  refine qc_num1 (by decide) hN hu hf.1 hd (W := fun x g => ax2 (q_put g (sf + 4) 8 (Int32.ofNat c) x) sf 5 (q_put g (sf + 4) 8 (Int32.ofNat c) x sf 5 + 1)) (fun x g => ?_) (fun x g y hy => ?_) (fun g hg _ => ?_) h hF hr
  · rw [m_put N p2 (by omega), axBV_s, m_gi hf.1, m_pi hf.1]
  · rw [ax2_n _ _ _ _ (by omega), q_put_n (by omega)]
  · have e2 : g sf 5 = Int32.ofNat c := (hg.1 5 (by omega)).trans hc
    rw [q_putn _ _ _ hc2 (by omega), ax2_n _ _ _ _ (show sf ≠ sf + 4 by omega), e2, qi_s, hc, qi_tn (by omega)]
    exact hg.rw (i := 2) (by omega) hc (by omega)
theorem qc_rn8 {p c : Nat} (hN : 2000 < N) (hu : LTa Z u) (hf : LFa Z sf) (hd : u + 1 < sf) (h : CT f u t n p 0 pl) (hF : FAc f sf φ) (hr : RFc u sf f0 f) (hc : φ 0 6 = Int32.ofNat c) (hc2 : c < 4) : QCs Z u sf t n pl f0 (axBV (F_X1_readNumbers N sf u 8 (axM Z f)) fun T10 => ax_is T10 u 7 <| axB (F_X7_takes N u 59 T10) fun x14 T13 => ax_rz x14 (some (x14, T13))) (q_n1 t n p 1 99 fun x => q_f3 φ 3 (φ 0 (3 + 3)).toNatClampNeg (Int32.ofNat x)) := by
  obtain ⟨p1, p2⟩ := hf.2.2.2.2.2
  have ec : f sf 6 = Int32.ofNat c := (hF.1 6 (by omega)).trans hc
  unfold F_X1_readNumbers
  rw [if_neg (show ¬ (8 : Int32) = 1 by decide), if_neg (show ¬ (8 : Int32) = 2 by decide), if_neg (show ¬ (8 : Int32) = 3 by decide), if_neg (show ¬ (8 : Int32) = 4 by decide), if_neg (show ¬ (8 : Int32) = 5 by decide), if_neg (show ¬ (8 : Int32) = 6 by decide), if_neg (show ¬ (8 : Int32) = 7 by decide), m_gr hf.1 p1, m_gi hf.1, ec, m_is hu.1]
  refine qc_num1 (by decide) hN hu hf.1 hd (W := fun x g => ax2 (q_put g (sf + 5) 4 (Int32.ofNat c) x) sf 6 (q_put g (sf + 5) 4 (Int32.ofNat c) x sf 6 + 1)) (fun x g => ?_) (fun x g y hy => ?_) (fun g hg _ => ?_) h hF hr
  · rw [m_put N p2 (by omega), axBV_s, m_gi hf.1, m_pi hf.1]
  · rw [ax2_n _ _ _ _ (by omega), q_put_n (by omega)]
  · have e2 : g sf 6 = Int32.ofNat c := (hg.1 6 (by omega)).trans hc
    rw [q_putn _ _ _ hc2 (by omega), ax2_n _ _ _ _ (show sf ≠ sf + 5 by omega), e2, qi_s, hc, qi_tn (by omega)]
    exact hg.rw (i := 3) (by omega) hc (by omega)
theorem q_fw_nc {φ : QF} (h : q_fw φ) : ∃ nv nc nm nh : Nat, φ 0 3 = Int32.ofNat nv ∧ φ 0 4 = Int32.ofNat nc ∧ φ 0 5 = Int32.ofNat nm ∧ φ 0 6 = Int32.ofNat nh ∧ nv ≤ 6 ∧ nc ≤ 8 ∧ nm ≤ nc ∧ nh ≤ 4 := by
  obtain ⟨⟨nv, nc, nm, nh, a1, a2, a3, a4, a5, a6, a7, a8, -⟩, -⟩ := h
  exact ⟨nv, nc, nm, nh, a1, a2, a3, a4, a5, a6, a7, a8⟩
theorem q_min8 {c : Nat} (h : c ≤ 8) : q_min 8 (Int32.ofNat c) = Int32.ofNat c := by
  rw [show q_min 8 (Int32.ofNat c) = Int32.ofNat (min 8 c) from q_minn (i := 8) (by omega) (by omega), Nat.min_eq_right h]
/-- what becomes of a clause -/
def q_clause (t : QR) (n p : Nat) (φ : QF) (cnt : Nat) : QO := if q_isw t p (q_wrl t n p) (q_W 0) = true then q_ko t n p (q_wrl t n p) φ cnt 0 else if q_isw t p (q_wrl t n p) (q_W 1) = true then q_ko t n p (q_wrl t n p) φ cnt 1 else if q_isw t p (q_wrl t n p) (q_W 2) = true then q_ko t n p (q_wrl t n p) φ cnt 2 else if q_isw t p (q_wrl t n p) (q_W 3) = true then q_ko t n p (q_wrl t n p) φ cnt 3 else if q_isw t p (q_wrl t n p) (q_W 4) = true then q_ko t n p (q_wrl t n p) φ cnt 4 else if q_isw t p (q_wrl t n p) (q_W 5) = true then q_ko t n p (q_wrl t n p) φ cnt 5 else if q_isw t p (q_wrl t n p) (q_W 6) = true then q_ko t n p (q_wrl t n p) φ cnt 6 else if q_isw t p (q_wrl t n p) (q_W 7) = true then q_ko t n p (q_wrl t n p) φ cnt 7 else .inl (1, Int32.ofNat p)
theorem qc_r35 {p : Nat} (hu : LTa Z u) (h : CT f u t n p 0 pl) (h6 : f u 6 = Int32.ofNat s) (hr : RFc u sf f0 f) : QCs Z u sf t n pl f0 (F_X1_readClause_35 N u (axM Z f)) (.inl (3, Int32.ofNat s)) := by
  have h0 := hu.1
  obtain ⟨f1, e1, g1, fr1⟩ := qc_fails (N := N) h0 h 3 (Int32.ofNat s)
  rw [if_pos rfl, if_pos rfl] at g1
  unfold F_X1_readClause_35
  rw [m_gi h0, h6, m_is h0, e1, axB_s, m_rz0]
  exact ⟨f1, p, rfl, g1, hr.tr (fr1.rc sf)⟩
theorem qc_clause {cnt : Nat} (hN : 2000 < N) (hu : LTa Z u) (hf : LFa Z sf) (hT : TXz Z) (hd : u + 1 < sf) (h : CT f u t n s 0 pl) (hs : q_bl t n s = s) (hF : FAc f sf φ) (hw : q_fw φ) : QCs Z u sf t n pl f (F_X1_readClause N sf u (if cnt < 60 then 0 else 1) (axM Z f)) (q_clause t n s φ cnt) := by
  have h0 := hu.1
  have hf0 := hf.1
  obtain ⟨f1, e1, g1, g6, fr1⟩ := qc_word hN hu h
  rw [hs] at g1 g6
  have hle := (q_skp_b q_isL t h.2.2.2.2.2.2).1
  change s ≤ q_wrl t n s at hle
  have hF1 := fr1.fa hd hF
  have hr1 := fr1.rc sf
  obtain ⟨nv, nc, nm, nh, v3, v4, v5, v6, b3, b4, b5, b6⟩ := q_fw_nc hw
  have x3 : f1 sf 3 = Int32.ofNat nv := (hF1.1 3 (by omega)).trans v3
  have x4 : f1 sf 4 = Int32.ofNat nc := (hF1.1 4 (by omega)).trans v4
  have x5 : f1 sf 5 = Int32.ofNat nm := (hF1.1 5 (by omega)).trans v5
  have x6 : f1 sf 6 = Int32.ofNat nh := (hF1.1 6 (by omega)).trans v6
  have r35 := qc_r35 (N := N) hu g1 g6 hr1
  unfold F_X1_readClause q_clause
  rw [m_is h0, e1, axBV_s, qc_kind hN hu hT g1 g6 hle, axB_s]
  unfold q_ck
  have ov : ∀ (A B : Option (Int32 × AxS)), (if (if cnt < 60 then (0 : Int32) else 1) = 0 then A else B) = if cnt < 60 then A else B := fun A B => by
    by_cases c : cnt < 60
    · rw [if_pos c, if_pos rfl, if_pos c]
    · rw [if_neg c, if_neg (by decide), if_neg c]
  by_cases c0 : q_isw t s (q_wrl t n s) (q_W 0) = true
  · simp only [if_pos c0]
    rw [if_neg (show ¬ (1 : Int32) = 0 by decide), ov]
    rw [q_ko_0]
    unfold q_fl
    by_cases cc : cnt < 60
    · rw [if_pos cc]
      unfold F_X1_isFull
      rw [m_is hf0, if_neg (show ¬ (1 : Int32) = 5 by decide), if_neg (show ¬ (1 : Int32) = 6 by decide), if_neg (show ¬ (1 : Int32) = 7 by decide), if_neg (show ¬ (1 : Int32) = 8 by decide), m_rz0, axB_s, if_pos rfl, m_is hf0, if_neg (show ¬ (60 ≤ cnt ∨ False) from fun q => q.elim (by omega) id)]
      exact qc_rn1 hN hu hf hd g1 hF1 hr1
    · rw [if_neg cc, if_pos (Or.inl (by omega))]
      exact r35
  simp only [if_neg c0]
  by_cases c1 : q_isw t s (q_wrl t n s) (q_W 1) = true
  · simp only [if_pos c1]
    rw [if_neg (show ¬ (2 : Int32) = 0 by decide), ov]
    rw [q_ko_1]
    unfold q_fl
    by_cases cc : cnt < 60
    · rw [if_pos cc]
      unfold F_X1_isFull
      rw [m_is hf0, if_neg (show ¬ (2 : Int32) = 5 by decide), if_neg (show ¬ (2 : Int32) = 6 by decide), if_neg (show ¬ (2 : Int32) = 7 by decide), if_neg (show ¬ (2 : Int32) = 8 by decide), m_rz0, axB_s, if_pos rfl, m_is hf0, if_neg (show ¬ (60 ≤ cnt ∨ False) from fun q => q.elim (by omega) id)]
      exact qc_rn2 hN hu hf hd g1 hF1 hr1
    · rw [if_neg cc, if_pos (Or.inl (by omega))]
      exact r35
  simp only [if_neg c1]
  by_cases c2 : q_isw t s (q_wrl t n s) (q_W 2) = true
  · simp only [if_pos c2]
    rw [if_neg (show ¬ (3 : Int32) = 0 by decide), ov]
    rw [q_ko_2]
    unfold q_fl
    by_cases cc : cnt < 60
    · rw [if_pos cc]
      unfold F_X1_isFull
      rw [m_is hf0, if_neg (show ¬ (3 : Int32) = 5 by decide), if_neg (show ¬ (3 : Int32) = 6 by decide), if_neg (show ¬ (3 : Int32) = 7 by decide), if_neg (show ¬ (3 : Int32) = 8 by decide), m_rz0, axB_s, if_pos rfl, m_is hf0, if_neg (show ¬ (60 ≤ cnt ∨ False) from fun q => q.elim (by omega) id)]
      exact qc_rn3 hN hu hf hd g1 hF1 hr1
    · rw [if_neg cc, if_pos (Or.inl (by omega))]
      exact r35
  simp only [if_neg c2]
  by_cases c3 : q_isw t s (q_wrl t n s) (q_W 3) = true
  · simp only [if_pos c3]
    rw [if_neg (show ¬ (4 : Int32) = 0 by decide), ov]
    rw [q_ko_3]
    unfold q_fl
    by_cases cc : cnt < 60
    · rw [if_pos cc]
      unfold F_X1_isFull
      rw [m_is hf0, if_neg (show ¬ (4 : Int32) = 5 by decide), if_neg (show ¬ (4 : Int32) = 6 by decide), if_neg (show ¬ (4 : Int32) = 7 by decide), if_neg (show ¬ (4 : Int32) = 8 by decide), m_rz0, axB_s, if_pos rfl, m_is hf0, if_neg (show ¬ (60 ≤ cnt ∨ False) from fun q => q.elim (by omega) id)]
      exact qc_num2 hN hu hf hd g1 hF1 hr1
    · rw [if_neg cc, if_pos (Or.inl (by omega))]
      exact r35
  simp only [if_neg c3]
  by_cases c4 : q_isw t s (q_wrl t n s) (q_W 4) = true
  · simp only [if_pos c4]
    rw [if_neg (show ¬ (5 : Int32) = 0 by decide), ov]
    rw [q_ko_4]
    unfold q_fl
    by_cases cc : cnt < 60
    · rw [if_pos cc]
      unfold F_X1_isFull
      rw [m_is hf0, if_pos rfl, m_gi hf0, x3, v3]
      by_cases cf : nv = 6
      · rw [if_neg (show ¬ Int32.ofNat nv < 6 from qi_ngt (i := nv) (j := 6) (by omega) (by omega)), m_rz1, axB_s, if_neg (show ¬ (1 : Int32) = 0 by decide), if_pos (Or.inr (by rw [cf]; rfl))]
        exact r35
      · rw [if_pos (show Int32.ofNat nv < 6 from qi_gt (j := 6) (by omega) (by omega)), m_rz0, axB_s, if_pos rfl, m_is hf0, if_neg (show ¬ (60 ≤ cnt ∨ Int32.ofNat nv = 6) from fun q => q.elim (by omega) (qi_ne (j := 6) cf (by omega) (by omega)))]
        exact v3 ▸ qc_rn5 (c := nv) hN hu hf hd g1 hF1 hr1 v3 (by omega)
    · rw [if_neg cc, if_pos (Or.inl (by omega))]
      exact r35
  simp only [if_neg c4]
  by_cases c5 : q_isw t s (q_wrl t n s) (q_W 5) = true
  · simp only [if_pos c5]
    rw [if_neg (show ¬ (6 : Int32) = 0 by decide), ov]
    rw [q_ko_5]
    unfold q_fl
    by_cases cc : cnt < 60
    · rw [if_pos cc]
      unfold F_X1_isFull
      rw [m_is hf0, if_neg (show ¬ (6 : Int32) = 5 by decide), if_pos rfl, m_gi hf0, x4, v4]
      by_cases cf : nc = 8
      · rw [if_neg (show ¬ Int32.ofNat nc < 8 from qi_ngt (i := nc) (j := 8) (by omega) (by omega)), m_rz1, axB_s, if_neg (show ¬ (1 : Int32) = 0 by decide), if_pos (Or.inr (by rw [cf]; rfl))]
        exact r35
      · rw [if_pos (show Int32.ofNat nc < 8 from qi_gt (j := 8) (by omega) (by omega)), m_rz0, axB_s, if_pos rfl, m_is hf0, if_neg (show ¬ (60 ≤ cnt ∨ Int32.ofNat nc = 8) from fun q => q.elim (by omega) (qi_ne (j := 8) cf (by omega) (by omega)))]
        exact v4 ▸ qc_rn6 (c := nc) hN hu hf hd g1 hF1 hr1 v4 (by omega)
    · rw [if_neg cc, if_pos (Or.inl (by omega))]
      exact r35
  simp only [if_neg c5]
  by_cases c6 : q_isw t s (q_wrl t n s) (q_W 6) = true
  · simp only [if_pos c6]
    rw [if_neg (show ¬ (7 : Int32) = 0 by decide), ov]
    rw [q_ko_6]
    unfold q_fl
    by_cases cc : cnt < 60
    · rw [if_pos cc]
      unfold F_X1_isFull
      rw [m_is hf0, if_neg (show ¬ (7 : Int32) = 5 by decide), if_neg (show ¬ (7 : Int32) = 6 by decide), if_pos rfl, m_gi hf0, x5, v4, v5, q_min8 b4, m_gi hf0, x5, m_gi hf0, x4]
      by_cases cf : nm = nc
      · rw [if_pos (show 60 ≤ cnt ∨ Int32.ofNat nm = Int32.ofNat nc from Or.inr (by rw [cf]))]
        by_cases c8 : 8 ≤ nm
        · rw [if_pos (show (8 : Int32) ≤ Int32.ofNat nm from qi_ge (i := 8) c8 (by omega)), m_rz1, axB_s, if_neg (show ¬ (1 : Int32) = 0 by decide)]
          exact r35
        · rw [if_neg (show ¬ (8 : Int32) ≤ Int32.ofNat nm from qi_nge (i := 8) (by omega) (by omega)), if_neg (qi_ngt (by omega) (by omega)), m_rz1, axB_s, if_neg (show ¬ (1 : Int32) = 0 by decide)]
          exact r35
      · rw [if_neg (show ¬ (8 : Int32) ≤ Int32.ofNat nm from qi_nge (i := 8) (by omega) (by omega)), if_pos (qi_gt (show nm < nc by omega) (by omega)), m_rz0, axB_s, if_pos rfl, m_is hf0, if_neg (show ¬ (60 ≤ cnt ∨ Int32.ofNat nm = Int32.ofNat nc) from fun q => q.elim (by omega) (qi_ne cf (by omega) (by omega)))]
        exact v5 ▸ qc_rn7 (c := nm) hN hu hf hd g1 hF1 hr1 v5 (by omega)
    · rw [if_neg cc, if_pos (Or.inl (by omega))]
      exact r35
  simp only [if_neg c6]
  by_cases c7 : q_isw t s (q_wrl t n s) (q_W 7) = true
  · simp only [if_pos c7]
    rw [if_neg (show ¬ (8 : Int32) = 0 by decide), ov]
    rw [q_ko_7]
    unfold q_fl
    by_cases cc : cnt < 60
    · rw [if_pos cc]
      unfold F_X1_isFull
      rw [m_is hf0, if_neg (show ¬ (8 : Int32) = 5 by decide), if_neg (show ¬ (8 : Int32) = 6 by decide), if_neg (show ¬ (8 : Int32) = 7 by decide), if_pos rfl, m_gi hf0, x6, v6]
      by_cases cf : nh = 4
      · rw [if_neg (show ¬ Int32.ofNat nh < 4 from qi_ngt (i := nh) (j := 4) (by omega) (by omega)), m_rz1, axB_s, if_neg (show ¬ (1 : Int32) = 0 by decide), if_pos (Or.inr (by rw [cf]; rfl))]
        exact r35
      · rw [if_pos (show Int32.ofNat nh < 4 from qi_gt (j := 4) (by omega) (by omega)), m_rz0, axB_s, if_pos rfl, m_is hf0, if_neg (show ¬ (60 ≤ cnt ∨ Int32.ofNat nh = 4) from fun q => q.elim (by omega) (qi_ne (j := 4) cf (by omega) (by omega)))]
        exact v6 ▸ qc_rn8 (c := nh) hN hu hf hd g1 hF1 hr1 v6 (by omega)
    · rw [if_neg cc, if_pos (Or.inl (by omega))]
      exact r35
  simp only [if_neg c7]
  rw [if_pos trivial, m_gi h0, g6, m_is h0]
  obtain ⟨f2, e2, g2, fr2⟩ := qc_fails (N := N) h0 g1 1 (Int32.ofNat s)
  rw [if_pos rfl, if_pos rfl] at g2
  rw [e2, axB_s, m_rz0]
  exact ⟨f2, _, rfl, g2, hr1.tr (fr2.rc sf)⟩
end
