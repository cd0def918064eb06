/-! texts: all the clauses -/
section
variable {t : QR} {n p s e cnt : Nat} {φ : QF}
theorem q_sgo_i (hp : p ≤ n) : (∀ z, q_sgo t n p φ = .inl z → z.1 ≠ 0) ∧ ∀ z, q_sgo t n p φ = .inr z → z.1 = φ ∧ p < z.2 ∧ z.2 ≤ n := by
  have hb := (q_skp_b q_isB t hp).1
  change p ≤ q_bl t n p at hb
  unfold q_sgo
  by_cases c : q_B t n (q_bl t n p) = 59
  · obtain ⟨hl, -⟩ := q_B_lt (by decide) c
    rw [if_pos c]
    refine ⟨fun z h => (by cases h), fun z h => ?_⟩
    cases h
    exact ⟨rfl, by show p < q_bl t n p + 1; omega, by show q_bl t n p + 1 ≤ n; omega⟩
  · rw [if_neg c]
    refine ⟨fun z h => ?_, fun z h => (by cases h)⟩
    cases h
    exact (show ¬ (1 : Int32) = 0 by decide)
theorem q_n1_i {lo hi : Int32} {U : Nat → QF} (he : e ≤ n) : (∀ z, q_n1 t n e lo hi U = .inl z → z.1 ≠ 0) ∧ ∀ z, q_n1 t n e lo hi U = .inr z → q_nok t n e lo hi ∧ z.1 = U (q_num t n (q_bl t n e)) ∧ e < z.2 ∧ z.2 ≤ n := by
  obtain ⟨h1, h2, -⟩ := q_skp_b q_isB t he
  obtain ⟨h3, h4, -⟩ := q_skp_b q_isD t h2
  change e ≤ q_bl t n e at h1
  change q_bl t n e ≤ q_dgt t n (q_bl t n e) at h3
  have r := q_sgo_i (t := t) (φ := U (q_num t n (q_bl t n e))) h4
  change (∀ z, q_sgo t n (q_dgt t n (q_bl t n e)) _ = .inl z → z.1 ≠ 0) ∧ ∀ z, q_sgo t n (q_dgt t n (q_bl t n e)) _ = .inr z → z.1 = _ ∧ q_dgt t n (q_bl t n e) < z.2 ∧ z.2 ≤ n at r
  unfold q_n1
  by_cases c : q_nok t n e lo hi
  · rw [if_pos (q_nb_t c)]
    refine ⟨r.1, fun z h => ?_⟩
    obtain ⟨a, b, d⟩ := r.2 z h
    exact ⟨c, a, by omega, d⟩
  · rw [if_neg (q_nb_f c)]
    refine ⟨fun z h => ?_, fun z h => (by cases h)⟩
    cases h
    exact q_nfk_z _ _ _
theorem q_n2_i (he : e ≤ n) : (∀ z, q_n2 t n e φ = .inl z → z.1 ≠ 0) ∧ ∀ z, q_n2 t n e φ = .inr z → (∃ k w, w ≤ 99 ∧ z.1 = q_f2 φ 1 k (Int32.ofNat w)) ∧ e < z.2 ∧ z.2 ≤ n := by
  obtain ⟨h1, h2, -⟩ := q_skp_b q_isB t he
  obtain ⟨h3, h4, -⟩ := q_skp_b q_isD t h2
  change e ≤ q_bl t n e at h1
  change q_bl t n e ≤ q_dgt t n (q_bl t n e) at h3
  change q_dgt t n (q_bl t n e) ≤ n at h4
  unfold q_n2
  by_cases c : q_nok t n e 0 11
  · rw [if_pos (q_nb_t c)]
    have r := q_n1_i (t := t) (lo := 0) (hi := 99) (U := fun w => q_f2 φ 1 (q_num t n (q_bl t n e)) (Int32.ofNat w)) h4
    unfold q_n1 at r
    refine ⟨r.1, fun z h => ?_⟩
    obtain ⟨a, b, d, g⟩ := r.2 z h
    have hw := a.2.2
    rw [show (99 : Int32) = Int32.ofNat 99 from rfl, qi_le (by have := q_num_le t n (q_bl t n (q_dgt t n (q_bl t n e))); omega) (by omega)] at hw
    exact ⟨⟨_, _, hw, b⟩, by omega, g⟩
  · rw [if_neg (q_nb_f c)]
    refine ⟨fun z h => ?_, fun z h => (by cases h)⟩
    cases h
    exact q_nfk_z _ _ _
theorem q_nok_b {lo hi : Nat} (h : q_nok t n e (Int32.ofNat lo) (Int32.ofNat hi)) (hl : lo < 100000) (hh : hi < 100000) : lo ≤ q_num t n (q_bl t n e) ∧ q_num t n (q_bl t n e) ≤ hi := by
  have hn := q_num_le t n (q_bl t n e)
  have h1 := h.2.1
  have h2 := h.2.2
  rw [qi_le (by omega) (by omega)] at h1 h2
  exact ⟨h1, h2⟩
def q_res (s n cnt : Nat) (o : QO) : Prop := (∀ z, o = .inl z → z.1 ≠ 0) ∧ ∀ z, o = .inr z → s < z.2 ∧ z.2 ≤ n ∧ q_fw z.1 ∧ cnt < 60
theorem q_fl_r {b : Prop} [Decidable b] {o : QO} (h1 : ∀ z, o = .inl z → z.1 ≠ 0) (h2 : ¬ b → ∀ z, o = .inr z → s < z.2 ∧ z.2 ≤ n ∧ q_fw z.1) : q_res s n cnt (q_fl b cnt s o) := by
  unfold q_fl q_res
  by_cases c : 60 ≤ cnt ∨ b
  · rw [if_pos c]
    refine ⟨fun z h => ?_, fun z h => (by cases h)⟩
    cases h
    exact (show ¬ (3 : Int32) = 0 by decide)
  · rw [if_neg c]
    refine ⟨h1, fun z h => ?_⟩
    obtain ⟨a, b, d⟩ := h2 (fun q => c (Or.inr q)) z h
    exact ⟨a, b, d, by omega⟩
theorem q_clause_r (hw : q_fw φ) (hs : s ≤ n) : q_res s n cnt (q_clause t n s φ cnt) := by
  obtain ⟨h1, h2, -⟩ := q_skp_b q_isL t hs
  change s ≤ q_wrl t n s at h1
  change q_wrl t n s ≤ n at h2
  obtain ⟨nv, nc, nm, nh, v3, v4, v5, v6, b3, b4, b5, b6⟩ := q_fw_nc hw
  unfold q_clause
  by_cases c0 : q_isw t s (q_wrl t n s) (q_W 0) = true
  · rw [if_pos c0, q_ko_0]
    have r := q_n1_i (t := t) (lo := 0) (hi := 9999) (U := fun x => q_f2 φ 0 0 (Int32.ofNat x)) h2
    refine q_fl_r r.1 fun _ z hz => ?_
    obtain ⟨a, b, d, g⟩ := r.2 z hz
    have hb := q_nok_b (lo := 0) (hi := 9999) a (by omega) (by omega)
    exact ⟨by omega, g, b ▸ q_fw_sc hw (B := 9999) (by omega) hb.2⟩
  rw [if_neg c0]
  by_cases c1 : q_isw t s (q_wrl t n s) (q_W 1) = true
  · rw [if_pos c1, q_ko_1]
    have r := q_n1_i (t := t) (lo := 0) (hi := 20) (U := fun x => q_f2 φ 0 1 (Int32.ofNat x)) h2
    refine q_fl_r r.1 fun _ z hz => ?_
    obtain ⟨a, b, d, g⟩ := r.2 z hz
    have hb := q_nok_b (lo := 0) (hi := 20) a (by omega) (by omega)
    exact ⟨by omega, g, b ▸ q_fw_sc hw (B := 20) (by omega) hb.2⟩
  rw [if_neg c1]
  by_cases c2 : q_isw t s (q_wrl t n s) (q_W 2) = true
  · rw [if_pos c2, q_ko_2]
    have r := q_n1_i (t := t) (lo := 0) (hi := 999) (U := fun x => q_f2 φ 0 2 (Int32.ofNat x)) h2
    refine q_fl_r r.1 fun _ z hz => ?_
    obtain ⟨a, b, d, g⟩ := r.2 z hz
    have hb := q_nok_b (lo := 0) (hi := 999) a (by omega) (by omega)
    exact ⟨by omega, g, b ▸ q_fw_sc hw (B := 999) (by omega) hb.2⟩
  rw [if_neg c2]
  by_cases c3 : q_isw t s (q_wrl t n s) (q_W 3) = true
  · rw [if_pos c3, q_ko_3]
    have r := q_n2_i (t := t) (φ := φ) h2
    refine q_fl_r r.1 fun _ z hz => ?_
    obtain ⟨⟨k, w, w1, b⟩, d, g⟩ := r.2 z hz
    exact ⟨by omega, g, b ▸ q_fw_hv hw w1⟩
  rw [if_neg c3]
  by_cases c4 : q_isw t s (q_wrl t n s) (q_W 4) = true
  · rw [if_pos c4, q_ko_4]
    have r := q_n1_i (t := t) (lo := 1) (hi := 20) (U := fun x => q_f3 φ 0 (φ 0 (3 + 0)).toNatClampNeg (Int32.ofNat x)) h2
    refine q_fl_r r.1 fun nb z hz => ?_
    obtain ⟨a, b, d, g⟩ := r.2 z hz
    have hb := q_nok_b (lo := 1) (hi := 20) a (by omega) (by omega)
    have et : (φ 0 (3 + 0)).toNatClampNeg = nv := by
      show (φ 0 3).toNatClampNeg = nv
      rw [v3, qi_tn (by omega)]
    rw [et] at b
    have hne : nv ≠ 6 := fun q => nb (by rw [v3, q]; rfl)
    exact ⟨by omega, g, b ▸ q_fw_r0 hw v3 (by omega) (by omega) hb.2⟩
  rw [if_neg c4]
  by_cases c5 : q_isw t s (q_wrl t n s) (q_W 5) = true
  · rw [if_pos c5, q_ko_5]
    have r := q_n1_i (t := t) (lo := 0) (hi := 9) (U := fun x => q_f3 φ 1 (φ 0 (3 + 1)).toNatClampNeg (Int32.ofNat x)) h2
    refine q_fl_r r.1 fun nb z hz => ?_
    obtain ⟨a, b, d, g⟩ := r.2 z hz
    have hb := q_nok_b (lo := 0) (hi := 9) a (by omega) (by omega)
    have et : (φ 0 (3 + 1)).toNatClampNeg = nc := by
      show (φ 0 4).toNatClampNeg = nc
      rw [v4, qi_tn (by omega)]
    rw [et] at b
    have hne : nc ≠ 8 := fun q => nb (by rw [v4, q]; rfl)
    exact ⟨by omega, g, b ▸ q_fw_r1 hw v4 (by omega) (by omega) hb.2⟩
  rw [if_neg c5]
  by_cases c6 : q_isw t s (q_wrl t n s) (q_W 6) = true
  · rw [if_pos c6, q_ko_6]
    have r := q_n1_i (t := t) (lo := 0) (hi := 40) (U := fun x => q_f3 φ 2 (φ 0 (3 + 2)).toNatClampNeg (Int32.ofNat x)) h2
    refine q_fl_r r.1 fun nb z hz => ?_
    obtain ⟨a, b, d, g⟩ := r.2 z hz
    have hb := q_nok_b (lo := 0) (hi := 40) a (by omega) (by omega)
    have et : (φ 0 (3 + 2)).toNatClampNeg = nm := by
      show (φ 0 5).toNatClampNeg = nm
      rw [v5, qi_tn (by omega)]
    rw [et] at b
    have hne : nm ≠ nc := fun q => nb (by rw [v5, v4, q_min8 b4, q])
    exact ⟨by omega, g, b ▸ q_fw_r2 hw v5 (by omega) (fun d0 hd0 hd1 => by rw [v4, qi_eq (by omega) (by omega)] at hd0; omega) (by omega) hb.2⟩
  rw [if_neg c6]
  by_cases c7 : q_isw t s (q_wrl t n s) (q_W 7) = true
  · rw [if_pos c7, q_ko_7]
    have r := q_n1_i (t := t) (lo := 1) (hi := 99) (U := fun x => q_f3 φ 3 (φ 0 (3 + 3)).toNatClampNeg (Int32.ofNat x)) h2
    refine q_fl_r r.1 fun nb z hz => ?_
    obtain ⟨a, b, d, g⟩ := r.2 z hz
    have hb := q_nok_b (lo := 1) (hi := 99) a (by omega) (by omega)
    have et : (φ 0 (3 + 3)).toNatClampNeg = nh := by
      show (φ 0 6).toNatClampNeg = nh
      rw [v6, qi_tn (by omega)]
    rw [et] at b
    have hne : nh ≠ 4 := fun q => nb (by rw [v6, q]; rfl)
    exact ⟨by omega, g, b ▸ q_fw_r3 hw v6 (by omega) (by omega) hb.2⟩
  rw [if_neg c7]
  refine ⟨fun z h => ?_, fun z h => (by cases h)⟩
  cases h
  exact (show ¬ (1 : Int32) = 0 by decide)
/-- all the clauses -/
def q_cls (t : QR) (n : Nat) : Nat → Nat → QF → Nat → QO
  | 0, p, φ, _ => .inr (φ, q_bl t n p)
  | k + 1, p, φ, cnt => if n ≤ q_bl t n p then .inr (φ, q_bl t n p) else (match q_clause t n (q_bl t n p) φ cnt with
    | .inl z => .inl z
    | .inr z => q_cls t n k z.2 z.1 (cnt + 1))
theorem q_cls_e (k : Nat) (h : n ≤ q_bl t n p) : q_cls t n k p φ cnt = .inr (φ, q_bl t n p) := by
  cases k with
  | zero => rfl
  | succ k => exact if_pos h
theorem q_cls_l {k : Nat} {z : Int32 × Int32} (h : ¬ n ≤ q_bl t n p) (e : q_clause t n (q_bl t n p) φ cnt = .inl z) : q_cls t n (k + 1) p φ cnt = .inl z := by
  unfold q_cls
  rw [if_neg h, e]
theorem q_cls_r {k : Nat} {z : QF × Nat} (h : ¬ n ≤ q_bl t n p) (e : q_clause t n (q_bl t n p) φ cnt = .inr z) : q_cls t n (k + 1) p φ cnt = q_cls t n k z.2 z.1 (cnt + 1) := by
  rw [q_cls, if_neg h, e]
end
section
variable {Z : AxS} {u sf m N n : Nat} {f0 : Nat → Nat → Int32} {t : QR} {pl : Int32}
theorem qc_cls_l (hN : 2000 < N) (hu : LTa Z u) (hf : LFa Z sf) (hT : TXz Z) (hd : u + 1 < sf) (ht : ∀ j, j < n → t j ≠ -1) : ∀ (k p cnt fu : Nat) (φ : QF) (f : Nat → Nat → Int32), n ≤ p + k → 61 < cnt + fu → cnt ≤ 60 → CT f u t n p 0 pl → FAc f sf φ → q_fw φ → RFc u sf f0 f → QCs Z u sf t n pl f0 (F_X1_readFrom_6 N fu sf u (Int32.ofNat cnt) (axM Z f)) (q_cls t n k p φ cnt) := by
  have h0 := hu.1
  intro k
  have stop : ∀ (k p cnt fu : Nat) (φ : QF) (f : Nat → Nat → Int32), n ≤ q_bl t n p → 0 < fu → cnt ≤ 60 → CT f u t n p 0 pl → FAc f sf φ → RFc u sf f0 f → QCs Z u sf t n pl f0 (F_X1_readFrom_6 N fu sf u (Int32.ofNat cnt) (axM Z f)) (q_cls t n k p φ cnt) := by
    intro k p cnt fu φ f hp hfu hc h hF hr
    obtain ⟨fu, rfl⟩ : ∃ q, fu = q + 1 := ⟨fu - 1, by omega⟩
    rw [q_cls_e k hp]
    show QCs Z u sf t n pl f0 (F_X1_readFrom_6b N (F_X1_readFrom_6 N fu) sf u (Int32.ofNat cnt) (axM Z f)) _
    obtain ⟨f1, e1, g1, fr1⟩ := qc_sign hN hu h
    unfold F_X1_readFrom_6b F_X1_readFrom_48
    rw [if_neg (show ¬ (600 : Int32) ≤ Int32.ofNat cnt from qi_nge (i := 600) (by omega) (by omega)), m_is h0, e1, axB_s, if_pos ((q_B_end ht).mpr hp), m_gi h0, g1.2.2.1, if_pos rfl, m_rz1]
    exact ⟨f1, rfl, g1, fr1.fa hd hF, hr.tr (fr1.rc sf)⟩
  induction k with
  | zero =>
    intro p cnt fu φ f hp hfu hc h hF hw hr
    refine stop 0 p cnt fu φ f ?_ (by omega) hc h hF hr
    have := (q_skp_b q_isB t h.2.2.2.2.2.2).1
    change p ≤ q_bl t n p at this
    omega
  | succ k ih =>
    intro p cnt fu φ f hp hfu hc h hF hw hr
    by_cases c : n ≤ q_bl t n p
    · exact stop (k + 1) p cnt fu φ f c (by omega) hc h hF hr
    obtain ⟨fu, rfl⟩ : ∃ q, fu = q + 1 := ⟨fu - 1, by omega⟩
    show QCs Z u sf t n pl f0 (F_X1_readFrom_6b N (F_X1_readFrom_6 N fu) sf u (Int32.ofNat cnt) (axM Z f)) _
    obtain ⟨f1, e1, g1, fr1⟩ := qc_sign hN hu h
    have hb := q_skp_b q_isB t h.2.2.2.2.2.2
    have hbl : p ≤ q_bl t n p := hb.1
    have r := qc_clause (cnt := cnt) hN hu hf hT hd g1 (q_skp_i q_isB t h.2.2.2.2.2.2) (fr1.fa hd hF) hw
    have rr := q_clause_r (t := t) (cnt := cnt) hw hb.2.1
    change q_res (q_bl t n p) n cnt (q_clause t n (q_bl t n p) φ cnt) at rr
    have e34 : ∀ S, (if Int32.ofNat cnt < 60 then (F_X1_readFrom_34 N (F_X1_readFrom_6 N fu) sf u (Int32.ofNat cnt) 0 u sf S) else (F_X1_readFrom_34 N (F_X1_readFrom_6 N fu) sf u (Int32.ofNat cnt) 1 u sf S)) = F_X1_readFrom_34 N (F_X1_readFrom_6 N fu) sf u (Int32.ofNat cnt) (if cnt < 60 then 0 else 1) u sf S := fun S => by
      by_cases c6 : cnt < 60
      · rw [if_pos c6, if_pos (show Int32.ofNat cnt < 60 from qi_gt (j := 60) c6 (by omega))]
      · rw [if_neg c6, if_neg (show ¬ Int32.ofNat cnt < 60 from qi_ngt (j := 60) (by omega) (by omega))]
    unfold F_X1_readFrom_6b
    rw [if_neg (show ¬ (600 : Int32) ≤ Int32.ofNat cnt from qi_nge (i := 600) (by omega) (by omega)), m_is h0, e1, axB_s, if_neg (fun q => c ((q_B_end ht).mp q)), e34]
    unfold F_X1_readFrom_34
    rw [m_is hf.1]
    rcases eo : q_clause t n (q_bl t n p) φ cnt with z | z
    · rw [q_cls_l c eo]
      rw [eo] at r
      obtain ⟨f2, q, e2, g2, fr2⟩ := r
      rw [e2, axB_s, if_pos rfl, m_rz0]
      exact ⟨f2, q, rfl, g2, hr.tr ((fr1.rc sf).tr fr2)⟩
    · rw [q_cls_r c eo]
      rw [eo] at r
      obtain ⟨a1, a2, a3, a4⟩ := rr.2 z eo
      obtain ⟨f2, e2, g2, hF2, fr2⟩ := r
      rw [e2, axB_s, if_neg (show ¬ (1 : Int32) = 0 by decide), qi_s]
      exact ih z.2 (cnt + 1) fu z.1 f2 (by omega) (by omega) (by omega) g2 hF2 a3 (hr.tr ((fr1.rc sf).tr fr2))
def QMl (Z : AxS) (m : Nat) (t : QR) (n : Nat) (pl : Int32) (N : Nat) (f : Nat → Nat → Int32) (r : Option (Int32 × AxS)) (o : QO) : Prop := match o with
  | .inl z => ∃ f' q, r = F_X10_abbey_71 N m (axM Z f') ∧ MT f' m t n q z.1 z.2 ∧ z.1 ≠ 0 ∧ RFm m f f'
  | .inr z => ∃ f', r = F_X10_abbey_71 N m (axM Z f') ∧ MT f' m t n z.2 0 pl ∧ FAm f' m z.1 ∧ RFm m f f'
theorem qm_cls_l (hN : 2000 < N) (hm : LMo Z m) : ∀ (k p cnt fu : Nat) (φ : QF) (f : Nat → Nat → Int32), n ≤ p + k → 62 < cnt + fu → cnt ≤ 60 → MT f m t n (q_bl t n p) 0 pl → p ≤ n → FAm f m φ → q_fw φ → f m 7 = Int32.ofNat cnt → RFm m f0 f → QMl Z m t n pl N f0 (F_X10_abbey_42 N fu m (axM Z f)) (q_cls t n k p φ cnt) := by
  have h0 := hm.1
  intro k
  have stop : ∀ (k p cnt fu : Nat) (φ : QF) (f : Nat → Nat → Int32), n ≤ q_bl t n p → 0 < fu → MT f m t n (q_bl t n p) 0 pl → FAm f m φ → RFm m f0 f → QMl Z m t n pl N f0 (F_X10_abbey_42 N fu m (axM Z f)) (q_cls t n k p φ cnt) := by
    intro k p cnt fu φ f hp hfu h hF hr
    obtain ⟨fu, rfl⟩ : ∃ q, fu = q + 1 := ⟨fu - 1, by omega⟩
    rw [q_cls_e k hp]
    refine ⟨f, ?_, h, hF, hr⟩
    show F_X10_abbey_42b N (F_X10_abbey_42 N fu) m (axM Z f) = _
    have h6 := h.2.2.2.2.2.1
    have h7 := h.2.2.2.2.2.2
    unfold F_X10_abbey_42b
    rw [m_gi h0, h.2.2.1, if_pos rfl, m_gi h0, h.2.1, m_gi h0, h.1, if_pos (qi_ge hp (by omega))]
  induction k with
  | zero =>
    intro p cnt fu φ f hp hfu hc h hpn hF hw h7 hr
    refine stop 0 p cnt fu φ f ?_ (by omega) h hF hr
    have := (q_skp_b q_isB t hpn).1
    change p ≤ q_bl t n p at this
    omega
  | succ k ih =>
    intro p cnt fu φ f hp hfu hc h hpn hF hw h7 hr
    by_cases c : n ≤ q_bl t n p
    · exact stop (k + 1) p cnt fu φ f c (by omega) h hF hr
    obtain ⟨fu, rfl⟩ : ∃ q, fu = q + 1 := ⟨fu - 1, by omega⟩
    have hb := q_skp_b q_isB t hpn
    have hbl : p ≤ q_bl t n p := hb.1
    have h6 := h.2.2.2.2.2.1
    have r := qm_clause hN hm h (q_skp_i q_isB t hpn) hF hw h7 hc
    have rr := q_clause_r (t := t) (cnt := cnt) hw hb.2.1
    change q_res (q_bl t n p) n cnt (q_clause t n (q_bl t n p) φ cnt) at rr
    have e42 : F_X10_abbey_42 N (fu + 1) m (axM Z f) = axBV (F_X10_clause N m (axM Z f)) fun T5 => ax_is T5 m 10 <| axBV (F_X10_blanks N m T5) fun T8 => F_X10_abbey_42 N fu m T8 := by
      show F_X10_abbey_42b N (F_X10_abbey_42 N fu) m (axM Z f) = _
      unfold F_X10_abbey_42b
      rw [m_gi h0, h.2.2.1, if_pos rfl, m_gi h0, h.2.1, m_gi h0, h.1, if_neg (qi_nge (by omega) (by omega)), m_is h0]
    rw [e42]
    rcases eo : q_clause t n (q_bl t n p) φ cnt with z | z
    · rw [q_cls_l c eo]
      rw [eo] at r
      obtain ⟨f2, q, e2, g2, fr2⟩ := r
      obtain ⟨f3, e3, g3, fr3⟩ := qm_blanks hN hm g2
      have hz := rr.1 z eo
      obtain ⟨fu, rfl⟩ : ∃ q, fu = q + 1 := ⟨fu - 1, by omega⟩
      refine ⟨f3, q_bl t n q, ?_, g3, hz, hr.tr (fr2.tr fr3.rc)⟩
      rw [e2, axBV_s, m_is h0, e3, axBV_s]
      show F_X10_abbey_42b N (F_X10_abbey_42 N fu) m (axM Z f3) = _
      unfold F_X10_abbey_42b
      rw [m_gi h0, g3.2.2.1, if_neg hz]
    · rw [q_cls_r c eo]
      rw [eo] at r
      obtain ⟨a1, a2, a3, a4⟩ := rr.2 z eo
      obtain ⟨f2, e2, g2, hF2, h72, fr2⟩ := r
      obtain ⟨f3, e3, g3, fr3⟩ := qm_blanks hN hm g2
      rw [e2, axBV_s, m_is h0, e3, axBV_s]
      exact ih z.2 (cnt + 1) fu z.1 f3 (by omega) (by omega) (by omega) g3 a2 (fr3.fa hF2) a3 (by rw [fr3.2 7 (by omega) (by omega) (by omega), h72]) (hr.tr (fr2.tr fr3.rc))
end
