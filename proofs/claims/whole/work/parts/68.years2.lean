/-! years and their span: the model, and both wholes -/
def KM (m : Nat) (f f' : Nat → Nat → Int32) : Prop := (∀ x, x ≠ m → ¬ scM m x → f' x = f x) ∧ ∀ k, k ≠ 44 → k ≠ 47 → k ≠ 48 → f' m k = f m k
theorem scM_m (m : Nat) : ¬ scM m m := by unfold scM; omega
theorem KM.rf (m : Nat) (f : Nat → Nat → Int32) : KM m f f := ⟨fun _ _ _ => rfl, fun _ _ _ _ => rfl⟩
theorem KM.tr {m : Nat} {f g k : Nat → Nat → Int32} (h : KM m f g) (h2 : KM m g k) : KM m f k := ⟨fun x p q => by rw [h2.1 x p q, h.1 x p q], fun j a b c => by rw [h2.2 j a b c, h.2 j a b c]⟩
theorem KM.sc {m : Nat} {f f' : Nat → Nat → Int32} (h : ∀ x, ¬ scM m x → f' x = f x) : KM m f f' := ⟨fun x _ q => h x q, fun k _ _ _ => by rw [h m (scM_m m)]⟩
theorem KM.w {m : Nat} (f : Nat → Nat → Int32) {k : Nat} (v : Int32) (h : k = 44 ∨ k = 47 ∨ k = 48) : KM m f (ax2 f m k v) := ⟨fun x p _ => ax2_n _ _ _ _ p, fun j a b c => ax2_j _ _ _ _ _ (by omega)⟩
theorem KM.a {m : Nat} (f : Nat → Nat → Int32) {a k : Nat} (v : Int32) (h : scM m a) : KM m f (ax2 f a k v) := KM.sc (fun x hx => ax2_n _ _ _ _ (fun e => hx (by rw [e]; exact h)))
section
variable {Z : AxS} {b m fa sf la sl bo sb N B : Nat} {ψ : QF} {l : QL} {r ρ : QR} {f f0 : Nat → Nat → Int32}
theorem HM.km (h : HM Z m f0 ψ l r) (hf : KM m f0 f) : HM Z m f ψ l r := by
  obtain ⟨hm, hG, hw, ⟨l1, l2, l3⟩, hlw, hR, hok, h12⟩ := h
  obtain ⟨G, G2⟩ := hf
  unfold scM at G
  refine ⟨hm, ?_, hw, ⟨?_, l2, fun k q hq => ?_⟩, hlw, ?_, hok, h12⟩
  · rw [← hG]
    exact rdG_e (fun x h1 h2 => G x (by omega) (by omega))
  · rw [G2 17 (by omega) (by omega) (by omega)]
    exact l1
  · have := (List.getElem?_eq_some_iff.mp hq).1
    rw [G _ (by omega) (by omega)]
    exact l3 k q hq
  · rw [← hR]
    exact rdM_e (fun j _ => by rw [G _ (by omega) (by omega)])
theorem MQz.mkk {α : Type} {o : Option (α × AxS)} {v : α} (f' : Nat → Nat → Int32) (h : o = some (v, axM Z f')) (k : KM m (ax2 f m 0 0) f') : MQz Z m f o v :=
  MQz.mk f' h (by rw [k.2 0 (by omega) (by omega) (by omega), ax2_k]) (fun j hj => by
    unfold scK at hj
    rw [k.2 j (by omega) (by omega) (by omega), ax2_j _ _ _ _ _ (by omega)]) (fun x hx hs => by rw [k.1 x hx hs, ax2_n _ _ _ _ hx])
theorem qm_draw (h : axL Z m = some (0, 10)) : F_X10_draw N m (axM Z f) = some (q_lot (q_next (f m 47)), axM Z (ax2 f m 47 (q_next (f m 47)))) := by
  unfold F_X10_draw
  simp only [m_gi h, m_pi h, ax2_k]
  rfl
theorem qm_gives {a j : Nat} {x : Int32} (hm : LMo Z m) (ha : axL Z a = some (1, 29)) (hd : m + 16 < a ∨ a < m) (hj : j < 6) (hx : f (m + 13 + 0) j = x) : ∃ f', F_X10_gives N m a (Int32.ofNat j) (axM Z f) = some (if q_bit (rdM f a 11) (Int32.ofNat j) = 1 then 0 else 1, axM Z f') ∧ rdM f' a = q_give (Int32.ofNat j) x (rdM f a) ∧ ∀ y, y ≠ a → f' y = f y := by
  obtain ⟨g1, g2, g3⟩ := LMo_of hm
  obtain ⟨g4, g5⟩ := g3 0 (by omega)
  have r1 : f a 1 = rdM f a 1 := rdM_k f a (by omega)
  have r11 : f a 11 = rdM f a 11 := rdM_k f a (by omega)
  unfold F_X10_gives q_give
  simp only [m_ld29_11 ha, m_has, axB_s, r11]
  by_cases c : q_bit (rdM f a 11) (Int32.ofNat j) = 1
  · simp only [if_pos c]
    rw [if_neg (show ¬ (1 : Int32) = 0 by decide), m_rz0]
    exact ⟨f, rfl, rfl, fun y _ => rfl⟩
  · simp only [if_neg c]
    rw [if_pos trivial]
    simp only [m_st29_11 ha, m_ld29_1 ha, m_gr hm.1 g1, m_ldr_0 g2 (show 0 < 3 by omega) (show 0 < 4 by omega) g4, m_ldn g5 (show j < 8 by omega) (by omega), m_less, axB_s, m_st29_1 ha, m_rz1, ax2_j _ _ _ _ _ (show 1 ≠ 11 by omega), ax2_n _ _ _ _ (show m + 13 + 0 ≠ a by omega), hx, r1, r11]
    refine ⟨_, rfl, ?_, fun y hy => by simp only [ax2_n _ _ _ _ hy]⟩
    rw [rdM_w _ _ _ (by omega), rdM_w _ _ _ (by omega)]
theorem qm_gives_t (h : HM Z m f ψ l r) (hρ : rdM f (m + 441) = ρ) {j : Nat} (hj : j < (ψ 0 3).toNatClampNeg) : ∃ f', F_X10_gives N m (m + 441) (Int32.ofNat j) (axM Z f) = some (if q_bit (ρ 11) (Int32.ofNat j) = 1 then 0 else 1, axM Z f') ∧ rdM f' (m + 441) = q_give (Int32.ofNat j) (ψ 2 j) ρ ∧ ∀ x, ¬ scM m x → f' x = f x := by
  obtain ⟨nv, n6, en, et⟩ := (q_fw_n h.2.2.1).1
  obtain ⟨f', e, g1, g2⟩ := qm_gives (N := N) (f := f) h.1 h.s441.2.1 (by omega) (show j < 6 by omega) (rdG_2 h.2.1 hj)
  rw [hρ] at e g1
  exact ⟨f', e, g1, fun x hx => g2 x (by unfold scM at hx; omega)⟩
theorem qm_yr118 (hN : 200 < N) (h : HM Z m f ψ l r) (hρ : rdM f (m + 441) = ρ) (hB : B < 2147483000) {k : Nat} (hk : k < 2147483648) (hok : q_ok ψ B ρ) (K : Nat → Int32 → Int32 → Int32 → Int32 → Int32 → AxS → Option AxS) (v2 v3 v4 v6 : Int32) : ∃ f', F_X10_yearsBy_118 N K m v2 v3 v4 (Int32.ofNat k) v6 (axM Z f) = K m v2 v3 v4 (Int32.ofNat k) (v6 + 1) (axM Z f') ∧ rdM f' (m + 441) = q_night ψ l (ρ 12) (q_yp (Int32.ofNat k) ρ) ∧ ∀ x, ¬ scM m x → f' x = f x := by
  have h0 := h.1.1
  have s := h.s441
  unfold F_X10_yearsBy_118
  have r1 : f (m + 441) 1 = ρ 1 := by rw [← hρ]; exact rdM_k f _ (by omega)
  have r0 : f (m + 441) 0 = ρ 0 := by rw [← hρ]; exact rdM_k f _ (by omega)
  obtain ⟨f1, e1, g1, fr1⟩ := qm_pays_t (N := N) h hρ (q_min (Int32.ofNat k) (q_min (ρ 1) (ρ 0)))
  obtain ⟨f2, e2, g2, fr2⟩ := qm_night_t hN (h.sc fr1) g1 hB (q_ok_yp hk hok)
  simp only [m_gr h0 s.1, m_ld29_1 s.2.1, m_ld29_0 s.2.1, r1, r0, m_less, axB_s, e1, m_is h0, e2, axBV_s]
  refine ⟨f2, rfl, ?_, fun x hx => by rw [fr2 x hx, fr1 x hx]⟩
  rw [g2, q_pay_12]
  rfl
theorem qm_yr85 (hN : 200 < N) (hB : B < 2147483000) {k : Nat} (hk : k < 2147483648) (hok : q_ok ψ B ρ) (K : Nat → Int32 → Int32 → Int32 → Int32 → Int32 → AxS → Option AxS) (v2 v3 v4 v6 : Int32) : ∀ (n j fu : Nat) (f : Nat → Nat → Int32), j + n = (ψ 0 3).toNatClampNeg → n < fu → HM Z m f ψ l r → rdM f (m + 441) = q_givesL ψ ρ j → ∃ f', F_X10_yearsBy_85 N K fu m v2 v3 v4 (Int32.ofNat k) v6 0 (Int32.ofNat j) (axM Z f) = K m v2 v3 v4 (Int32.ofNat k) (v6 + 1) (axM Z f') ∧ rdM f' (m + 441) = q_night ψ l (ρ 12) (q_yp (Int32.ofNat k) (q_givesL ψ ρ (ψ 0 3).toNatClampNeg)) ∧ ∀ x, ¬ scM m x → f' x = f x := by
  intro n
  induction n with
  | zero =>
    intro j fu f hj hfu h hρ
    obtain ⟨nv, n6, en, et⟩ := (q_fw_n h.2.2.1).1
    obtain ⟨fu, rfl⟩ : ∃ q, fu = q + 1 := ⟨fu - 1, by omega⟩
    show ∃ f', F_X10_yearsBy_85b N K (F_X10_yearsBy_85 N K fu) m v2 v3 v4 (Int32.ofNat k) v6 0 (Int32.ofNat j) (axM Z f) = _ ∧ _
    unfold F_X10_yearsBy_85b
    have h0 := h.1.1
    have p12 : axP Z m 12 = some (m + 4) := h.1.2.1 12 4 rfl
    have s4 : axL Z (m + 4) = some (1, 7) := h.1.2.2.1 4 _ rfl
    have e3 : f (m + 4) 0 = ψ 0 3 := rdG_0 h.2.1 (show 3 < 7 by omega)
    simp only [m_gr h0 p12, m_ld7_0 s4, e3]
    rw [if_pos (by rw [en]; exact qi_ge (by omega) (by omega))]
    have hjn : j = (ψ 0 3).toNatClampNeg := by omega
    subst hjn
    obtain ⟨f1, e1, g1, fr1⟩ := qm_yr118 hN h hρ hB hk (q_ok_gives h.2.2.1 hok _ (Nat.le_refl _)) K v2 v3 v4 v6
    exact ⟨f1, e1, by rw [g1, q_gives_12], fr1⟩
  | succ n ih =>
    intro j fu f hj hfu h hρ
    obtain ⟨nv, n6, en, et⟩ := (q_fw_n h.2.2.1).1
    obtain ⟨fu, rfl⟩ : ∃ q, fu = q + 1 := ⟨fu - 1, by omega⟩
    show ∃ f', F_X10_yearsBy_85b N K (F_X10_yearsBy_85 N K fu) m v2 v3 v4 (Int32.ofNat k) v6 0 (Int32.ofNat j) (axM Z f) = _ ∧ _
    unfold F_X10_yearsBy_85b
    have h0 := h.1.1
    have p12 : axP Z m 12 = some (m + 4) := h.1.2.1 12 4 rfl
    have s4 : axL Z (m + 4) = some (1, 7) := h.1.2.2.1 4 _ rfl
    have e3 : f (m + 4) 0 = ψ 0 3 := rdG_0 h.2.1 (show 3 < 7 by omega)
    obtain ⟨f1, e1, g1, fr1⟩ := qm_gives_t (N := N) h hρ (show j < (ψ 0 3).toNatClampNeg by omega)
    simp only [m_gr h0 p12, m_ld7_0 s4, e3, m_gr h0 h.s441.1, m_is h0, e1, axB_s, qi_s]
    rw [if_neg (by rw [en]; exact qi_nge (by omega) (by omega)), if_pos trivial]
    obtain ⟨f2, e2, g2, fr2⟩ := ih (j + 1) fu f1 (by omega) (by omega) (h.sc fr1) g1
    exact ⟨f2, e2, g2, fun x hx => by rw [fr2 x hx, fr1 x hx]⟩
theorem qm_yr85f (hN : 200 < N) (h : HM Z m f ψ l r) (hρ : rdM f (m + 441) = ρ) (hB : B < 2147483000) {k : Nat} (hk : k < 2147483648) (hok : q_ok ψ B ρ) (K : Nat → Int32 → Int32 → Int32 → Int32 → Int32 → AxS → Option AxS) (v2 v3 v4 v6 : Int32) : ∃ f', F_X10_yearsBy_85 N K N m v2 v3 v4 (Int32.ofNat k) v6 1 0 (axM Z f) = K m v2 v3 v4 (Int32.ofNat k) (v6 + 1) (axM Z f') ∧ rdM f' (m + 441) = q_night ψ l (ρ 12) (q_yp (Int32.ofNat k) ρ) ∧ ∀ x, ¬ scM m x → f' x = f x := by
  have h0 := h.1.1
  have p12 : axP Z m 12 = some (m + 4) := h.1.2.1 12 4 rfl
  have s4 : axL Z (m + 4) = some (1, 7) := h.1.2.2.1 4 _ rfl
  obtain ⟨M, rfl⟩ : ∃ q, N = q + 1 := ⟨N - 1, by omega⟩
  show ∃ f', F_X10_yearsBy_85b (M + 1) K (F_X10_yearsBy_85 (M + 1) K M) m v2 v3 v4 (Int32.ofNat k) v6 1 0 (axM Z f) = _ ∧ _
  unfold F_X10_yearsBy_85b
  simp only [m_gr h0 p12, m_ld7_0 s4]
  rw [if_neg (show ¬ (1 : Int32) = 0 by decide), ite_self]
  exact qm_yr118 hN h hρ hB hk hok K v2 v3 v4 v6
theorem q_yp_s (k : Int32) (ρ : QR) (v : Int32) : q_yp k (q_set ρ 12 v) = q_set (q_yp k ρ) 12 v := by
  unfold q_yp
  rw [q_pay_s]
  rfl
theorem q_ok_s12 (v : Int32) (h : q_ok ψ B ρ) : q_ok ψ B (q_set ρ 12 v) := by
  obtain ⟨h2, h5, h67, hb, ho, hc⟩ := h
  exact ⟨h2, h5, h67, fun k hk => by
    obtain ⟨c, c1, c2⟩ := hb k hk
    exact ⟨c, c1, by rw [q_set_n _ _ (by omega), c2]⟩, ho, hc⟩
/-- behind both draws: alms or none, what is paid, the night -/
theorem qm_yr80 (hN : 200 < N) (h : HM Z m f ψ l r) {st : Int32} (hρ : rdM f (m + 441) = q_set ρ 12 st) (hB : B < 2147483000) {k : Nat} (hk : k < 2147483648) (hok : q_ok ψ B ρ) (K : Nat → Int32 → Int32 → Int32 → Int32 → Int32 → AxS → Option AxS) (v2 v3 p v6 s : Int32) : ∃ f', (if p ≤ q_lot s then F_X10_yearsBy_80 N K m v2 v3 p (Int32.ofNat k) v6 0 (axM Z f) else F_X10_yearsBy_80 N K m v2 v3 p (Int32.ofNat k) v6 1 (axM Z f)) = K m v2 v3 p (Int32.ofNat k) (v6 + 1) (axM Z f') ∧ rdM f' (m + 441) = q_set (q_night ψ l st (q_yp (Int32.ofNat k) (q_yr ψ p s ρ))) 12 st ∧ ∀ x, ¬ scM m x → f' x = f x := by
  unfold F_X10_yearsBy_80 q_yr
  obtain ⟨nv, n6, en, et⟩ := (q_fw_n h.2.2.1).1
  by_cases c : p ≤ q_lot s
  · rw [if_pos c, if_neg (Int32.not_lt.mpr c)]
    obtain ⟨f1, e1, g1, fr1⟩ := qm_yr85 hN hB hk (q_ok_s12 st hok) K v2 v3 p v6 (ψ 0 3).toNatClampNeg 0 N f (by omega) (by omega) h hρ
    refine ⟨f1, e1, ?_, fr1⟩
    rw [g1, q_gives_s, q_yp_s, q_night_s, q_set_k]
  · rw [if_neg c, if_pos (Int32.not_le.mp c)]
    obtain ⟨f1, e1, g1, fr1⟩ := qm_yr85f hN h hρ hB hk (q_ok_s12 st hok) K v2 v3 p v6
    refine ⟨f1, e1, ?_, fr1⟩
    rw [g1, q_yp_s, q_night_s, q_set_k]
theorem qm_yr49 (h : HM Z m f ψ l r) {s1 c : Int32} (hs : f m 47 = s1) (hc : f m 48 = c) (K : Nat → Int32 → Int32 → Int32 → Int32 → Int32 → AxS → Option AxS) (v2 v3 v4 v5 v6 st : Int32) : F_X10_yearsBy_49 N K m v2 v3 v4 v5 v6 st 12 (m + 441) (axM Z f) = if v4 ≤ q_lot (q_next s1) then F_X10_yearsBy_80 N K m v2 v3 v4 v5 v6 0 (axM Z (ax2 (ax2 (ax2 f (m + 441) 12 st) m 48 (c + st)) m 47 (q_next s1))) else F_X10_yearsBy_80 N K m v2 v3 v4 v5 v6 1 (axM Z (ax2 (ax2 (ax2 f (m + 441) 12 st) m 48 (c + st)) m 47 (q_next s1))) := by
  have h0 := h.1.1
  have s4 := h.s441
  have e48 : ax2 f (m + 441) 12 st m 48 = c := by rw [ax2_n _ _ _ _ (show m ≠ m + 441 by omega), hc]
  have e47 : ax2 (ax2 f (m + 441) 12 st) m 48 (c + st) m 47 = s1 := by rw [ax2_j _ _ _ _ _ (show 47 ≠ 48 by omega), ax2_n _ _ _ _ (show m ≠ m + 441 by omega), hs]
  unfold F_X10_yearsBy_49
  rw [m_st29_12 s4.2.1, m_gi h0, e48, m_gr h0 s4.1, m_ld29_12 s4.2.1, ax2_k, m_pi h0, m_is h0, qm_draw h0, e47, axB_s]
theorem qm_yr24 (h : HM Z m f ψ l r) {s : Int32} (hs : f m 47 = s) (K : Nat → Int32 → Int32 → Int32 → Int32 → Int32 → AxS → Option AxS) (v2 v3 v4 v5 v6 : Int32) : F_X10_yearsBy_24b N K m v2 v3 v4 v5 v6 (axM Z f) = if v2 ≤ v6 then some (axM Z f) else if v3 ≤ q_lot (q_next s) then F_X10_yearsBy_49 N K m v2 v3 v4 v5 v6 0 12 (m + 441) (axM Z (ax2 f m 47 (q_next s))) else F_X10_yearsBy_49 N K m v2 v3 v4 v5 v6 1 12 (m + 441) (axM Z (ax2 f m 47 (q_next s))) := by
  have h0 := h.1.1
  have s4 := h.s441
  unfold F_X10_yearsBy_24b
  rw [m_gr h0 s4.1, m_is h0, qm_draw h0, hs, axB_s]
theorem qm_years_l (hN : 200 < N) {t k : Nat} (ht : t ≤ 96) (hk : k < 2147483648) (q p : Int32) : ∀ (n j fu : Nat) (f : Nat → Nat → Int32) (ρ : QR) (s c v : Int32), j + n = t → n < fu → HM Z m f ψ l r → rdM f (m + 441) = q_set ρ 12 v → f m 47 = s → f m 48 = c → q_ok ψ (999 + j) ρ → ∃ f' v', F_X10_yearsBy_24 N fu m (Int32.ofNat t) q p (Int32.ofNat k) (Int32.ofNat j) (axM Z f) = some (axM Z f') ∧ f' m 48 = (q_years ψ l q p (Int32.ofNat k) n s c ρ).1 ∧ rdM f' (m + 441) = q_set (q_years ψ l q p (Int32.ofNat k) n s c ρ).2 12 v' ∧ KM m f f' := by
  intro n
  induction n with
  | zero =>
    intro j fu f ρ s c v hj hfu h hρ hs hc hok
    obtain ⟨fu, rfl⟩ : ∃ q, fu = q + 1 := ⟨fu - 1, by omega⟩
    show ∃ f' v', F_X10_yearsBy_24b N (F_X10_yearsBy_24 N fu) m (Int32.ofNat t) q p (Int32.ofNat k) (Int32.ofNat j) (axM Z f) = _ ∧ _
    rw [qm_yr24 h hs, if_pos (qi_ge (by omega) (by omega))]
    exact ⟨f, v, rfl, hc, hρ, KM.rf _ _⟩
  | succ n ih =>
    intro j fu f ρ s c v hj hfu h hρ hs hc hok
    obtain ⟨fu, rfl⟩ : ∃ q, fu = q + 1 := ⟨fu - 1, by omega⟩
    show ∃ f' v', F_X10_yearsBy_24b N (F_X10_yearsBy_24 N fu) m (Int32.ofNat t) q p (Int32.ofNat k) (Int32.ofNat j) (axM Z f) = _ ∧ _
    have h0 := h.1.1
    have s4 := h.s441
    rw [q_years_s]
    have K1 : KM m f (ax2 f m 47 (q_next s)) := KM.w f _ (Or.inr (Or.inl rfl))
    have e47 : ax2 f m 47 (q_next s) m 47 = q_next s := ax2_k _ _ _ _
    have e48 : ax2 f m 47 (q_next s) m 48 = c := by rw [ax2_j _ _ _ _ _ (by omega), hc]
    rw [qm_yr24 h hs, if_neg (qi_nge (by omega) (by omega)), qm_yr49 (h.km K1) e47 e48, qm_yr49 (h.km K1) e47 e48]
    clear e47 e48 K1
    generalize q_next s = s1
    generalize q_next s1 = s2
    have K4 : ∀ st, KM m f (ax2 (ax2 (ax2 (ax2 f m 47 s1) (m + 441) 12 st) m 48 (c + st)) m 47 s2) := fun st => (KM.w f _ (Or.inr (Or.inl rfl))).tr ((KM.a _ _ (show scM m (m + 441) by unfold scM; omega)).tr ((KM.w _ _ (Or.inr (Or.inr rfl))).tr (KM.w _ _ (Or.inr (Or.inl rfl)))))
    have hr4 : ∀ st, rdM (ax2 (ax2 (ax2 (ax2 f m 47 s1) (m + 441) 12 st) m 48 (c + st)) m 47 s2) (m + 441) = q_set ρ 12 st := fun st => by
      rw [rdM_n _ _ (by omega), rdM_n _ _ (by omega), rdM_w _ _ _ (by omega), rdM_n _ _ (by omega), hρ, q_set_2]
    obtain ⟨f1, e1, g1, fr1⟩ := qm_yr80 hN (h.km (K4 (q_sto q s1))) (hr4 (q_sto q s1)) (show 999 + j < 2147483000 by omega) hk hok (F_X10_yearsBy_24 N fu) (Int32.ofNat t) q p (Int32.ofNat j) s2
    have fm := fr1 m (scM_m m)
    obtain ⟨f2, v2, e2, c2, g2, k2⟩ := ih (j + 1) fu f1 (q_night ψ l (q_sto q s1) (q_yp (Int32.ofNat k) (q_yr ψ p s2 ρ))) s2 (c + q_sto q s1) _ (by omega) (by omega) ((h.km (K4 _)).sc fr1) g1 (by rw [fm, ax2_k]) (by rw [fm, ax2_j _ _ _ _ _ (by omega), ax2_k]) (q_ok_night l _ h.2.2.1 (show 999 + j < 2147483000 by omega) (q_ok_yp hk (q_ok_yr h.2.2.1 p _ hok)))
    rw [qi_s, e2] at e1
    refine ⟨f2, v2, ?_, c2, g2, (K4 _).tr ((KM.sc fr1).tr k2)⟩
    by_cases cq : q ≤ q_lot s1
    · have e0 : q_sto q s1 = 0 := by unfold q_sto; rw [if_neg (Int32.not_lt.mpr cq)]
      rw [e0] at e1
      rw [if_pos cq]
      exact e1
    · have e0 : q_sto q s1 = 1 := by unfold q_sto; rw [if_pos (Int32.not_le.mp cq)]
      rw [e0] at e1
      rw [if_neg cq]
      exact e1
theorem qm_yearsBy (hN : 200 < N) (h : HM Z m f ψ l r) {t k : Nat} (ht : t ≤ 96) (hk : k < 2147483648) (q p s : Int32) : ∃ f' v', F_X10_yearsBy N m s (Int32.ofNat t) q p (Int32.ofNat k) (axM Z f) = some (axM Z f') ∧ f' m 48 = (q_years ψ l q p (Int32.ofNat k) t s 0 r).1 ∧ rdM f' (m + 441) = q_set (q_years ψ l q p (Int32.ofNat k) t s 0 r).2 12 v' ∧ KM m f f' := by
  have h0 := h.1.1
  have s4 := h.s441
  unfold F_X10_yearsBy
  obtain ⟨f1, e1, g1, fr1⟩ := qm_copies_t hN h
  simp only [m_gr h0 s4.1, m_gr h0 s4.2.2.1, e1, axBV_s, m_pi h0]
  have K1 : KM m f (ax2 (ax2 f1 m 47 s) m 48 0) := (KM.sc fr1).tr ((KM.w f1 s (Or.inr (Or.inl rfl))).tr (KM.w _ 0 (Or.inr (Or.inr rfl))))
  obtain ⟨f2, v2, e2, c2, g2, k2⟩ := qm_years_l hN ht hk q p t 0 N (ax2 (ax2 f1 m 47 s) m 48 0) r s 0 0 (by omega) (by omega) (h.km K1) (by
    rw [rdM_n _ _ (by omega), rdM_n _ _ (by omega), g1, q_set_c _ _ h.2.2.2.2.2.2.2]) (by rw [ax2_j _ _ _ _ _ (by omega), ax2_k]) (ax2_k _ _ _ _) (q_ok_mono (by omega) h.2.2.2.2.2.2.1)
  exact ⟨f2, v2, e2, c2, g2, K1.tr k2⟩
/-- what may be asked of years -/
def q_arey (n q p k : Int32) : Prop := (1 ≤ n ∧ n ≤ 96) ∧ (0 ≤ q ∧ q ≤ 16) ∧ (0 ≤ p ∧ p ≤ 16) ∧ (0 ≤ k ∧ k ≤ 99)
theorem m_areY1 {n q p k : Int32} (c : q_arey n q p k) (S : AxS) : F_X10_areYears N n q p k S = some (1, S) := by
  obtain ⟨c1, c2, c3, c4⟩ := c
  unfold F_X10_areYears
  simp only [m_in, axB_s, if_pos c1, if_pos c2, if_pos c3, if_pos c4, m_rz1, if_neg (show ¬ (1 : Int32) = 0 by decide)]
theorem m_areY0 {n q p k : Int32} (c : ¬ q_arey n q p k) (S : AxS) : F_X10_areYears N n q p k S = some (0, S) := by
  unfold F_X10_areYears
  simp only [m_in, axB_s]
  by_cases c1 : 1 ≤ n ∧ n ≤ 96
  · rw [if_pos c1, if_neg (by decide)]
    by_cases c2 : 0 ≤ q ∧ q ≤ 16
    · rw [if_pos c2, if_neg (by decide)]
      by_cases c3 : 0 ≤ p ∧ p ≤ 16
      · rw [if_pos c3, if_neg (by decide)]
        by_cases c4 : 0 ≤ k ∧ k ≤ 99
        · exact absurd ⟨c1, c2, c3, c4⟩ c
        · rw [if_neg c4, if_pos rfl, m_rz0]
      · rw [if_neg c3, if_pos rfl, m_rz0]
    · rw [if_neg c2, if_pos rfl, m_rz0]
  · rw [if_neg c1, if_pos rfl, m_rz0]
theorem qc_needT {α : Type} (h0 : axL Z b = some (0, 9)) (K : Unit → AxS → Option (AxT α)) : ax_is (axM Z f) b 9 (axBT (F_X9_needArgument N b 0 (axM Z f)) K) = some (.inr q_iae, axM (axS0 Z) (ax2 f b 15 (f b 15 + 1))) := by rw [m_is h0, qc_need0 N h0]
theorem qc_needO {α : Type} (h0 : axL Z b = some (0, 9)) (K : Unit → AxS → Option (AxT α)) : ax_is (axM Z f) b 9 (axBT (F_X9_needArgument N b 1 (axM Z f)) K) = K () (axM Z f) := by rw [m_is h0, qc_need1]
theorem qc_yrs1 {α : Type} (h0 : axL Z b = some (0, 9)) {n q p k : Int32} (c : q_arey n q p k) (K : Unit → AxS → Option (AxT α)) : axBT (F_X9_needYears N b n q p k (axM Z f)) K = K () (axM Z f) := by
  obtain ⟨c1, c2, c3, c4⟩ := c
  unfold F_X9_needYears F_X9_needYears_28 F_X9_needYears_29 F_X9_needYears_57 F_X9_needYears_58
  simp only [qc_needT h0, qc_needO h0, q_rg rfl, if_pos c1, if_pos c2, if_pos c3, if_pos c4, axBT_l]
theorem qc_yrs0 {α : Type} (h0 : axL Z b = some (0, 9)) {n q p k : Int32} (c : ¬ q_arey n q p k) (K : Unit → AxS → Option (AxT α)) : axBT (F_X9_needYears N b n q p k (axM Z f)) K = some (.inr q_iae, axM (axS0 Z) (ax2 f b 15 (f b 15 + 1))) := by
  unfold F_X9_needYears F_X9_needYears_28 F_X9_needYears_29 F_X9_needYears_57 F_X9_needYears_58
  simp only [qc_needT h0, qc_needO h0, q_rg rfl]
  by_cases c1 : 1 ≤ n ∧ n ≤ 96
  · rw [if_pos c1]
    by_cases c4 : 0 ≤ k ∧ k ≤ 99
    · rw [if_pos c4]
      by_cases c2 : 0 ≤ q ∧ q ≤ 16
      · rw [if_pos c2]
        by_cases c3 : 0 ≤ p ∧ p ≤ 16
        · exact absurd ⟨c1, c2, c3, c4⟩ c
        · rw [if_neg c3, axBT_r]
      · rw [if_neg c2, axBT_r]
    · rw [if_neg c4, axBT_r]
  · rw [if_neg c1, axBT_r]
def q_yrv (r : QR) (y : Int32 × QR) (w : Int32) : Int32 := if w = 0 then y.2 0 else if w = 1 then y.2 9 - r 9 else if w = 2 then y.2 10 - r 10 else y.1
theorem qc_years (hN : 200 < N) (h : HC Z b fa sf la sl bo sb f ψ l r) (s n q p k w : Int32) : ((q_arey n q p k ∧ (0 ≤ w ∧ w ≤ 3)) → CQz Z b f (F_X9_years N b s n q p k w (axM Z f)) (q_yrv r (q_years ψ l q p k n.toNatClampNeg s 0 r) w)) ∧ (¬ (q_arey n q p k ∧ (0 ≤ w ∧ w ≤ 3)) → CTz Z b f (F_X9_years N b s n q p k w (axM Z f)) q_iae 15) := by
  have h0 := h.1.1.1
  have p8 := h.1.2.2.2.2.2.2.2.1
  have p9 := h.1.2.2.2.2.2.2.2.2.1
  unfold F_X9_years F_X9_years_26 F_X9_years_27
  rw [m_is h0]
  refine ⟨fun ⟨c, cw⟩ => ?_, fun c => ?_⟩
  · rw [qc_yrs1 h0 c]
    simp only [qc_needT h0, qc_needO h0, q_rg rfl, if_pos cw]
    obtain ⟨t, ht, rfl⟩ := q_nn (Int32.le_trans (by decide) c.1.1) (show n ≤ Int32.ofNat 96 from c.1.2) (by omega)
    obtain ⟨kk, hk, rfl⟩ := q_nn c.2.2.2.1 (show k ≤ Int32.ofNat 99 from c.2.2.2.2) (by omega)
    rw [qi_tn (by omega)]
    obtain ⟨f1, e1, g1, fr1⟩ := qc_runYears hN h ht (show kk < 2147483648 by omega) q p s
    have hR1 : rdSt f1 (b + 31) = r := (h.sc fr1).2.2.2.2.2.1
    simp only [m_is h0, e1, axB_s, m_gr h0 p9.1, m_gi p9.2.1, m_gr h0 p8.1, m_gi p8.2.1]
    refine CQz.mk f1 ?_ fr1
    have y0 : f1 (b + 34) 0 = (q_years ψ l q p (Int32.ofNat kk) t s 0 r).2 0 := by rw [← g1]; rfl
    have y9 : f1 (b + 34) 10 = (q_years ψ l q p (Int32.ofNat kk) t s 0 r).2 9 := by rw [← g1]; rfl
    have y10 : f1 (b + 34) 11 = (q_years ψ l q p (Int32.ofNat kk) t s 0 r).2 10 := by rw [← g1]; rfl
    have z9 : f1 (b + 31) 10 = r 9 := by rw [← hR1]; rfl
    have z10 : f1 (b + 31) 11 = r 10 := by rw [← hR1]; rfl
    unfold q_yrv
    rw [y0, y9, y10, z9, z10]
    by_cases w0 : w = 0
    · rw [if_pos w0, if_pos w0]
    rw [if_neg w0, if_neg w0]
    by_cases w1 : w = 1
    · rw [if_pos w1, if_pos w1]
    rw [if_neg w1, if_neg w1]
    by_cases w2 : w = 2
    · rw [if_pos w2, if_pos w2]
    rw [if_neg w2, if_neg w2]
  · by_cases c1 : q_arey n q p k
    · rw [qc_yrs1 h0 c1]
      simp only [qc_needT h0, qc_needO h0, q_rg rfl]
      rw [if_neg (fun z => c ⟨c1, z⟩)]
      exact CTz.mk rfl
    · rw [qc_yrs0 h0 c1]
      exact CTz.mk rfl
theorem qm_years (hN : 200 < N) (h : HM Z m f ψ l r) (s n q p k w : Int32) : ((q_arey n q p k ∧ (0 ≤ w ∧ w ≤ 3)) → MQz Z m f (F_X10_years N m s n q p k w (axM Z f)) (q_yrv r (q_years ψ l q p k n.toNatClampNeg s 0 r) w)) ∧ (¬ (q_arey n q p k ∧ (0 ≤ w ∧ w ≤ 3)) → MTz Z m f (F_X10_years N m s n q p k w (axM Z f)) 1 1) := by
  have h' := h.t0
  have h0 := h.1.1
  have s4 := h.s441
  unfold F_X10_years F_X10_years_28 F_X10_years_33
  simp only [m_pi h0, m_is h0]
  refine ⟨fun ⟨c, cw⟩ => ?_, fun c => ?_⟩
  · rw [m_areY1 c, axB_s, if_neg (by decide)]
    simp only [m_in, axB_s, if_pos cw]
    rw [if_neg (by decide), qm_badF N h0]
    obtain ⟨t, ht, rfl⟩ := q_nn (Int32.le_trans (by decide) c.1.1) (show n ≤ Int32.ofNat 96 from c.1.2) (by omega)
    obtain ⟨kk, hk, rfl⟩ := q_nn c.2.2.2.1 (show k ≤ Int32.ofNat 99 from c.2.2.2.2) (by omega)
    rw [qi_tn (by omega)]
    obtain ⟨f1, v1, e1, c1, g1, k1⟩ := qm_yearsBy hN h' ht (show kk < 2147483648 by omega) q p s
    have hR1 : rdM f1 (m + 440) = r := (h'.km k1).2.2.2.2.2.1
    simp only [m_is h0, e1, axBV_s, m_gr h0 s4.1, m_gr h0 s4.2.2.1, m_ld29_0 s4.2.1, m_ld29_9 s4.2.1, m_ld29_10 s4.2.1, m_ld29_9 s4.2.2.2, m_ld29_10 s4.2.2.2, m_gi h0]
    refine MQz.mkk f1 ?_ k1
    have y0 : f1 (m + 441) 0 = (q_years ψ l q p (Int32.ofNat kk) t s 0 r).2 0 := by rw [rdM_k f1 (m + 441) (by omega), g1]; rfl
    have y9 : f1 (m + 441) 9 = (q_years ψ l q p (Int32.ofNat kk) t s 0 r).2 9 := by rw [rdM_k f1 (m + 441) (by omega), g1]; rfl
    have y10 : f1 (m + 441) 10 = (q_years ψ l q p (Int32.ofNat kk) t s 0 r).2 10 := by rw [rdM_k f1 (m + 441) (by omega), g1]; rfl
    have z9 : f1 (m + 440) 9 = r 9 := by rw [rdM_k f1 (m + 440) (by omega), hR1]
    have z10 : f1 (m + 440) 10 = r 10 := by rw [rdM_k f1 (m + 440) (by omega), hR1]
    unfold q_yrv
    rw [y0, y9, y10, z9, z10, c1]
    by_cases w0 : w = 0
    · rw [if_pos w0, if_pos w0]
    rw [if_neg w0, if_neg w0]
    by_cases w1 : w = 1
    · rw [if_pos w1, if_pos w1]
    rw [if_neg w1, if_neg w1]
    by_cases w2 : w = 2
    · rw [if_pos w2, if_pos w2]
    rw [if_neg w2, if_neg w2]
  · by_cases c1 : q_arey n q p k
    · rw [m_areY1 c1, axB_s, if_neg (by decide)]
      simp only [m_in, axB_s]
      rw [if_neg (fun z => c ⟨c1, z⟩), if_pos rfl, m_is h0]
      exact qm_badT1 N h.1 _ _
    · rw [m_areY0 c1, axB_s, if_pos rfl, m_is h0]
      exact qm_badT1 N h.1 _ _
end
