/-! feed -/
def q_byt (v : Int32) (i : Nat) : Int32 := Int32.ofNat (v.toBitVec.toNat / 2 ^ (24 - 8 * (i % 4)) % 256)
def q_sel (a b c d e : Int32) (i : Nat) : Int32 := if i < 4 then a else if i < 8 then b else if i < 12 then c else if i < 16 then d else e
def q_fd (t : QR) (nb : Nat) (a b c d e : Int32) : QR := fun j => if nb ≤ j ∧ j < nb + 20 then q_byt (q_sel a b c d e (j - nb)) (j - nb) else t j
theorem q_byt_b (v : Int32) (i : Nat) : ∃ x, x ≤ 255 ∧ q_byt v i = Int32.ofNat x := ⟨_, Nat.le_of_lt_succ (Nat.mod_lt _ (by omega)), rfl⟩
theorem q_bc_w (v : Int32) (b1 : BitVec 32) (n : Nat) (h : (b1 &&& 255#32).toNat = n % 256) : b1 &&& 255#32 = (Int32.ofNat (n % 256)).toBitVec := by
  apply BitVec.eq_of_toNat_eq
  rw [h]
  show n % 256 = (BitVec.ofNat 32 (n % 256)).toNat
  rw [BitVec.toNat_ofNat]
  omega
theorem q_bc_u (v : BitVec 32) (s : Nat) : ((v >>> s) &&& 255#32).toNat = v.toNat / 2 ^ s % 256 := by
  rw [BitVec.toNat_and, BitVec.toNat_ushiftRight, Nat.shiftRight_eq_div_pow]
  show (v.toNat / 2 ^ s) &&& 255 = _
  rw [show (255 : Nat) = 2 ^ 8 - 1 by rfl, Nat.and_two_pow_sub_one_eq_mod]
theorem q_bc_s (v : BitVec 32) (s : Nat) (hs : s = 0 ∨ s = 8 ∨ s = 16 ∨ s = 24) : ((v.sshiftRight s) &&& 255#32).toNat = v.toNat / 2 ^ s % 256 := by
  rw [BitVec.toNat_and]
  show (v.sshiftRight s).toNat &&& 255 = _
  rw [show (255 : Nat) = 2 ^ 8 - 1 by rfl, Nat.and_two_pow_sub_one_eq_mod]
  have hlt := v.isLt
  cases hm : v.msb with
  | false => rw [BitVec.sshiftRight_eq_of_msb_false hm, BitVec.toNat_ushiftRight, Nat.shiftRight_eq_div_pow]
  | true =>
    rw [BitVec.sshiftRight_eq_of_msb_true hm, BitVec.toNat_not, BitVec.toNat_ushiftRight, BitVec.toNat_not, Nat.shiftRight_eq_div_pow]
    rcases hs with rfl | rfl | rfl | rfl <;> omega
theorem q_byt_c (v : Int32) : ∀ i, i < 4 → axUshr v (Int32.ofNat (24 - 8 * i)) &&& 255 = q_byt v i
  | 0, _ => Int32.toBitVec_inj.1 ((show (axUshr v (Int32.ofNat 24) &&& 255).toBitVec = (v.toBitVec >>> 24) &&& 255#32 from rfl).trans (q_bc_w v _ _ (q_bc_u _ 24)))
  | 1, _ => Int32.toBitVec_inj.1 ((show (axUshr v (Int32.ofNat 16) &&& 255).toBitVec = (v.toBitVec >>> 16) &&& 255#32 from rfl).trans (q_bc_w v _ _ (q_bc_u _ 16)))
  | 2, _ => Int32.toBitVec_inj.1 ((show (axUshr v (Int32.ofNat 8) &&& 255).toBitVec = (v.toBitVec >>> 8) &&& 255#32 from rfl).trans (q_bc_w v _ _ (q_bc_u _ 8)))
  | 3, _ => Int32.toBitVec_inj.1 ((show (axUshr v (Int32.ofNat 0) &&& 255).toBitVec = (v.toBitVec >>> 0) &&& 255#32 from rfl).trans (q_bc_w v _ _ (q_bc_u _ 0)))
  | k + 4, h => absurd h (by omega)
theorem q_byt_m4 (v : Int32) : ∀ i, i < 4 → (v >>> ((Int32.ofNat (24 - 8 * i)) &&& 31)) &&& 255 = q_byt v i
  | 0, _ => Int32.toBitVec_inj.1 ((show ((v >>> ((Int32.ofNat 24) &&& 31)) &&& 255).toBitVec = (v.toBitVec.sshiftRight 24) &&& 255#32 from rfl).trans (q_bc_w v _ _ (q_bc_s _ 24 (by omega))))
  | 1, _ => Int32.toBitVec_inj.1 ((show ((v >>> ((Int32.ofNat 16) &&& 31)) &&& 255).toBitVec = (v.toBitVec.sshiftRight 16) &&& 255#32 from rfl).trans (q_bc_w v _ _ (q_bc_s _ 16 (by omega))))
  | 2, _ => Int32.toBitVec_inj.1 ((show ((v >>> ((Int32.ofNat 8) &&& 31)) &&& 255).toBitVec = (v.toBitVec.sshiftRight 8) &&& 255#32 from rfl).trans (q_bc_w v _ _ (q_bc_s _ 8 (by omega))))
  | 3, _ => Int32.toBitVec_inj.1 ((show ((v >>> ((Int32.ofNat 0) &&& 31)) &&& 255).toBitVec = (v.toBitVec.sshiftRight 0) &&& 255#32 from rfl).trans (q_bc_w v _ _ (q_bc_s _ 0 (by omega))))
  | k + 4, h => absurd h (by omega)
theorem q_sh20 : ∀ i, i < 20 → (24 : Int32) - 8 * (Int32.ofNat i - Int32.ofNat i / 4 * 4) = Int32.ofNat (24 - 8 * (i % 4)) := by decide +kernel
theorem q_byt_m (v : Int32) {i : Nat} (hi : i < 20) : (v >>> ((24 - 8 * (Int32.ofNat i - Int32.ofNat i / 4 * 4)) &&& 31)) &&& 255 = q_byt v i := by
  rw [q_sh20 i hi, q_byt_m4 v (i % 4) (Nat.mod_lt _ (by omega))]
  unfold q_byt
  rw [Nat.mod_mod]
/-- the class's shift -/
def q_shf (i : Nat) : Int32 := match i with
  | 0 => 24
  | 1 => 16
  | 2 => 8
  | 3 => 0
  | _ => -8
theorem q_shf_o : ∀ i, i < 4 → q_shf i = Int32.ofNat (24 - 8 * i) := by decide
theorem q_shf_s : ∀ i, i < 4 → q_shf i + (-8) = q_shf (i + 1) := by decide
theorem q_shf_n : ∀ i, i < 4 → ¬ q_shf i < 0 := by decide
section
variable {Z : AxS} {b m N : Nat} {f g : Nat → Nat → Int32} {ψ : QF} {l : QL} {r β : QR} {nl nb : Nat} {t : QR} {pl rs c0 c1 : Int32} {nw : Nat} {wk : Nat → QR} {ni : Nat} {im : QI}
theorem qc_app_l {u : Nat} (hu : LTa Z u) (v : Int32) : ∀ (n i fu k : Nat) (f : Nat → Nat → Int32), i + n = 4 → n < fu → k + n ≤ 600 → f u 1 = Int32.ofNat k → ∃ f', F_X7_append_3 N fu u v (q_shf i) (axM Z f) = some (axM Z f') ∧ f' u 1 = Int32.ofNat (k + n) ∧ (∀ j, f' (u + 1) j = if k ≤ j ∧ j < k + n then q_byt v (i + (j - k)) else f (u + 1) j) ∧ (∀ x, x ≠ u → x ≠ u + 1 → f' x = f x) ∧ ∀ j, j ≠ 1 → f' u j = f u j := by
  obtain ⟨h0, h1, h2⟩ := hu
  intro n
  induction n with
  | zero =>
    intro i fu k f hi hfu hk h
    obtain ⟨fu, rfl⟩ : ∃ q, fu = q + 1 := ⟨fu - 1, by omega⟩
    obtain rfl : i = 4 := by omega
    show ∃ f', F_X7_append_3b N (F_X7_append_3 N fu) u v (q_shf 4) (axM Z f) = _ ∧ _
    unfold F_X7_append_3b
    rw [if_pos (show q_shf 4 < 0 by decide)]
    exact ⟨f, rfl, h, fun j => by rw [if_neg (by omega)], fun _ _ _ => rfl, fun _ _ => rfl⟩
  | succ n ih =>
    intro i fu k f hi hfu hk h
    obtain ⟨fu, rfl⟩ : ∃ q, fu = q + 1 := ⟨fu - 1, by omega⟩
    show ∃ f', F_X7_append_3b N (F_X7_append_3 N fu) u v (q_shf i) (axM Z f) = _ ∧ _
    unfold F_X7_append_3b
    have e0 : q_shf i = Int32.ofNat (24 - 8 * i) := q_shf_o i (by omega)
    rw [if_neg (q_shf_n i (by omega)), m_gr h0 h1, m_gi h0, h, m_putn N h2 (show k < 600 by omega) (by omega), axBV_s, m_gi h0, ax2_n _ _ _ _ (show u ≠ u + 1 by omega), h, m_pi h0, qi_s, q_shf_s i (by omega)]
    obtain ⟨f', e, a1, a2, a3, a4⟩ := ih (i + 1) fu (k + 1) (ax2 (ax2 f (u + 1) k (axUshr v (q_shf i) &&& 255)) u 1 (Int32.ofNat (k + 1))) (by omega) (by omega) (by omega) (ax2_k _ _ _ _)
    refine ⟨f', e, by rw [a1]; congr 1; omega, fun j => ?_, fun x p q => by rw [a3 x p q, ax2_n _ _ _ _ p, ax2_n _ _ _ _ q], fun j hj => by rw [a4 j hj, ax2_j _ _ _ _ _ hj, ax2_n _ _ _ _ (show u ≠ u + 1 by omega)]⟩
    rw [a2 j, ax2_n _ _ _ _ (show u + 1 ≠ u by omega), ax2_a, e0, q_byt_c v i (by omega)]
    by_cases c1 : j = k
    · subst c1
      rw [if_neg (by omega), if_pos rfl, if_pos (by omega), Nat.sub_self, Nat.add_zero]
    · by_cases c2 : k + 1 ≤ j ∧ j < k + 1 + n
      · rw [if_pos c2, if_pos (by omega)]
        congr 1
        omega
      · rw [if_neg c2, if_neg c1, if_neg (by omega)]
theorem qc_append {u : Nat} (hN : 2000 < N) (hu : LTa Z u) (v : Int32) {k : Nat} (hk : k + 4 ≤ 600) (h : f u 1 = Int32.ofNat k) : ∃ f', F_X7_append N u v (axM Z f) = some (axM Z f') ∧ f' u 1 = Int32.ofNat (k + 4) ∧ (∀ j, f' (u + 1) j = if k ≤ j ∧ j < k + 4 then q_byt v (j - k) else f (u + 1) j) ∧ (∀ x, x ≠ u → x ≠ u + 1 → f' x = f x) ∧ ∀ j, j ≠ 1 → f' u j = f u j := by
  obtain ⟨f', e, a1, a2, a3, a4⟩ := qc_app_l (N := N) hu v 4 0 N k f (by omega) (by omega) hk h
  refine ⟨f', e, a1, fun j => ?_, a3, a4⟩
  rw [a2 j, Nat.zero_add]
theorem q_byt_4 (v : Int32) {i j : Nat} (h : i % 4 = j % 4) : q_byt v i = q_byt v j := by
  unfold q_byt
  rw [h]
/-- only the tape has changed -/
theorem CA.tp {nb' : Nat} {t' : QR} (h : CA Z b f ψ l r β nl nb t pl rs c0 c1 nw wk ni im) (hV : VA ψ nb t nw wk ni im) (e : ∀ x, x ≠ b + 1 → x ≠ b + 2 → g x = f x) (h1 : g (b + 1) 1 = Int32.ofNat nb') (h5 : g (b + 1) 5 = f (b + 1) 5) (ht : ∀ j, j < 600 → g (b + 2) j = t' j) : CA Z b g ψ l r β nl nb' t' pl rs c0 c1 nw wk ni im := by
  obtain ⟨⟨fa, sf, la, sl, bo, sb, hH, hB⟩, hK, hT, k1, k2, k3, k4, k5, k6, k7, k8, k9, k10⟩ := h
  obtain ⟨-, -, hnw, -, hni, him⟩ := hV
  obtain ⟨hC, hF, hw, hl, hlw, hR, hok⟩ := hH
  have q1 := hC.2.2.1
  have q2 := hC.2.2.2.1
  have q3 := hC.2.2.2.2.1
  have hla : b + 14 < la := by clear q1 q3; omega
  have hfa : b + 2 < fa := by clear q2 q3; omega
  have hbo : b + 22 < bo := by clear q1 q2; omega
  clear q1 q2 q3
  refine ⟨⟨fa, sf, la, sl, bo, sb, ⟨hC, ?_, hw, hl.e (e _ (by omega) (by omega)) (e _ (by omega) (by omega)), hlw, ?_, hok⟩, ?_⟩, hK.e (fun x p q => e x (by omega) (by omega)), hT, h1, ht, by rw [h5, k3], by rw [e b (by omega) (by omega), k4], by rw [e b (by omega) (by omega), k5], by rw [e b (by omega) (by omega), k6], by rw [e _ (by omega) (by omega), k7], fun w hw => ?_, by rw [e b (by omega) (by omega), k9], fun i hi => ?_⟩
  · rw [← hF]
    exact rdF_e fun x p q => e x (by omega) (by omega)
  · rw [← hR]
    exact rdSt_e (e _ (by omega) (by omega)) (e _ (by omega) (by omega)) (e _ (by omega) (by omega))
  · unfold clB at hB ⊢
    rw [e bo (by omega) (by omega), e (bo + 1) (by omega) (by omega)]
    exact hB
  · rw [← k8 w hw]
    exact rdSt_e (e _ (by omega) (by omega)) (e _ (by omega) (by omega)) (e _ (by omega) (by omega))
  · obtain ⟨v1, v2, v3⟩ := k10 i hi
    refine ⟨by rw [e _ (by omega) (by omega), v1], ?_, fun w hw => ?_⟩
    · rw [← v2]
      exact rdSt_e (e _ (by omega) (by omega)) (e _ (by omega) (by omega)) (e _ (by omega) (by omega))
    · rw [← v3 w hw]
      exact rdSt_e (e _ (by omega) (by omega)) (e _ (by omega) (by omega)) (e _ (by omega) (by omega))
theorem MA.tp {nb' : Nat} {t' : QR} (h : MA Z m f ψ l r β nl nb t pl rs c0 c1 nw wk ni im) (e : ∀ x, x ≠ m → x ≠ m + 1 → g x = f x) (h1 : g m 1 = Int32.ofNat nb') (hk : ∀ k, k ≠ 0 → k ≠ 1 → g m k = f m k) (ht : ∀ j, j < 600 → g (m + 1) j = t' j) : MA Z m g ψ l r β nl nb' t' pl rs c0 c1 nw wk ni im := by
  obtain ⟨hH, hB, k1, k2, k3, k4, k5, k6, k7, k8, k9, k10⟩ := h
  refine ⟨hH.x (hk 17 (by omega) (by omega)) (fun x hx => e x (by omega) (by omega)), hB.x (hk 31 (by omega) (by omega)) (fun x p q => e x (by omega) (by omega)), h1, ht, by rw [hk 3 (by omega) (by omega), k3], by rw [hk 33 (by omega) (by omega), k4], by rw [e _ (by omega) (by omega), k5], by rw [e _ (by omega) (by omega), k6], by rw [hk 32 (by omega) (by omega), k7], fun w hw => ?_, by rw [hk 34 (by omega) (by omega), k9], fun i hi => ?_⟩
  · rw [← k8 w hw]
    exact rdM_e fun k _ => by rw [e _ (by omega) (by omega)]
  · obtain ⟨v1, v2, v3⟩ := k10 i hi
    have ei := e (m + 460 + i) (by omega) (by omega)
    unfold rdI at v2 v3 ⊢
    rw [ei]
    exact ⟨v1, v2, v3⟩
theorem qc_feed (hN : 2000 < N) (h : CA Z b f ψ l r β nl nb t pl rs c0 c1 nw wk ni im) (hV : VA ψ nb t nw wk ni im) (v1 v2 v3 v4 v5 : Int32) : (nb + 20 ≤ 600 → ∃ f', F_X9_feed N b v1 v2 v3 v4 v5 (axM Z f) = some (Int32.ofNat (nb + 20), axM Z f') ∧ CA Z b f' ψ l r β nl (nb + 20) (q_fd t nb v1 v2 v3 v4 v5) pl rs c0 c1 nw wk ni im ∧ CFa b f f') ∧ (¬ nb + 20 ≤ 600 → F_X9_feed N b v1 v2 v3 v4 v5 (axM Z f) = some (-1, axM Z f)) := by
  have hA := h
  obtain ⟨⟨fa, sf, la, sl, bo, sb, hH, -⟩, -, -, k1, k2, -⟩ := h
  obtain ⟨⟨a0, -⟩, -, -, -, -, ⟨e0, e1⟩, -⟩ := hH.1
  have hnb := hV.1
  have hu := e1.1
  have eadd : Int32.ofNat nb + 20 = Int32.ofNat (nb + 20) := qi_add nb 20
  unfold F_X9_feed
  rw [m_gr a0 e0, m_gi hu, k1, eadd]
  refine ⟨fun c => ?_, fun c => ?_⟩
  · obtain ⟨f1, x1, y1, z1, o1, j1⟩ := qc_append (N := N) hN e1 v1 (by omega) k1
    obtain ⟨f2, x2, y2, z2, o2, j2⟩ := qc_append (N := N) hN e1 v2 (by omega) y1
    obtain ⟨f3, x3, y3, z3, o3, j3⟩ := qc_append (N := N) hN e1 v3 (by omega) y2
    obtain ⟨f4, x4, y4, z4, o4, j4⟩ := qc_append (N := N) hN e1 v4 (by omega) y3
    obtain ⟨f5, x5, y5, z5, o5, j5⟩ := qc_append (N := N) hN e1 v5 (by omega) y4
    have o : ∀ x, x ≠ b + 1 → x ≠ b + 2 → f5 x = f x := fun x p q => by rw [o5 x p q, o4 x p q, o3 x p q, o2 x p q, o1 x p q]
    refine ⟨f5, ?_, hA.tp hV o (by rw [y5]) (by rw [j5 5 (by omega), j4 5 (by omega), j3 5 (by omega), j2 5 (by omega), j1 5 (by omega)]) (fun j hj => ?_), fun x hx => o x (by omega) (by omega)⟩
    · rw [if_pos (show Int32.ofNat (nb + 20) ≤ 600 from qi_ge (j := 600) c (by omega)), m_gr a0 e0, m_is hu, x1, axBV_s, m_gr a0 e0, m_is hu, x2, axBV_s, m_gr a0 e0, m_is hu, x3, axBV_s, m_gr a0 e0, m_is hu, x4, axBV_s, m_gr a0 e0, m_is hu, x5, axBV_s, m_gr a0 e0, m_gi hu, y5]
    · show f5 (b + 1 + 1) j = q_fd t nb v1 v2 v3 v4 v5 j
      rw [z5, z4, z3, z2, z1]
      unfold q_fd q_sel
      by_cases c0 : nb ≤ j ∧ j < nb + 20
      · rw [if_pos c0]
        by_cases d1 : j - nb < 4
        · rw [if_pos d1, if_neg (by omega), if_neg (by omega), if_neg (by omega), if_neg (by omega), if_pos (by omega)]
        rw [if_neg d1]
        by_cases d2 : j - nb < 8
        · rw [if_pos d2, if_neg (by omega), if_neg (by omega), if_neg (by omega), if_pos (by omega)]
          exact q_byt_4 _ (by omega)
        rw [if_neg d2]
        by_cases d3 : j - nb < 12
        · rw [if_pos d3, if_neg (by omega), if_neg (by omega), if_pos (by omega)]
          exact q_byt_4 _ (by omega)
        rw [if_neg d3]
        by_cases d4 : j - nb < 16
        · rw [if_pos d4, if_neg (by omega), if_pos (by omega)]
          exact q_byt_4 _ (by omega)
        rw [if_neg d4, if_pos (by omega)]
        exact q_byt_4 _ (by omega)
      · rw [if_neg c0, if_neg (by omega), if_neg (by omega), if_neg (by omega), if_neg (by omega), if_neg (by omega)]
        exact k2 j hj
  · rw [if_neg (show ¬ Int32.ofNat (nb + 20) ≤ 600 from qi_nge (j := 600) (by omega) (by omega))]
theorem qm_feed_l (hm : LMo Z m) (v1 v2 v3 v4 v5 : Int32) : ∀ (n i fu K : Nat) (f : Nat → Nat → Int32), i + n = 20 → n < fu → K + n ≤ 600 → f m 1 = Int32.ofNat K → ∃ f', F_X10_feed_23 N fu m v1 v2 v3 v4 v5 (Int32.ofNat i) (axM Z f) = some (Int32.ofNat (K + n), axM Z f') ∧ f' m 1 = Int32.ofNat (K + n) ∧ (∀ j, f' (m + 1) j = if K ≤ j ∧ j < K + n then q_byt (q_sel v1 v2 v3 v4 v5 (i + (j - K))) (i + (j - K)) else f (m + 1) j) ∧ (∀ x, x ≠ m → x ≠ m + 1 → f' x = f x) ∧ ∀ j, j ≠ 1 → f' m j = f m j := by
  have h0 := hm.1
  have p9 : axP Z m 9 = some (m + 1) := hm.2.1 9 1 rfl
  have s1 : axL Z (m + 1) = some (1, 600) := hm.2.2.1 1 _ rfl
  intro n
  induction n with
  | zero =>
    intro i fu K f hi hfu hK h
    obtain ⟨fu, rfl⟩ : ∃ q, fu = q + 1 := ⟨fu - 1, by omega⟩
    show ∃ f', F_X10_feed_23b N (F_X10_feed_23 N fu) m v1 v2 v3 v4 v5 (Int32.ofNat i) (axM Z f) = _ ∧ _
    unfold F_X10_feed_23b
    rw [if_pos (show (20 : Int32) ≤ Int32.ofNat i from qi_ge (i := 20) (by omega) (by omega)), m_gi h0, h]
    exact ⟨f, rfl, h, fun j => by rw [if_neg (by omega)], fun _ _ _ => rfl, fun _ _ => rfl⟩
  | succ n ih =>
    intro i fu K f hi hfu hK h
    obtain ⟨fu, rfl⟩ : ∃ q, fu = q + 1 := ⟨fu - 1, by omega⟩
    have step : ∃ f', F_X10_feed_76 N (F_X10_feed_23 N fu) m v1 v2 v3 v4 v5 (Int32.ofNat i) (q_sel v1 v2 v3 v4 v5 i) (axM Z f) = some (Int32.ofNat (K + (n + 1)), axM Z f') ∧ f' m 1 = Int32.ofNat (K + (n + 1)) ∧ (∀ j, f' (m + 1) j = if K ≤ j ∧ j < K + (n + 1) then q_byt (q_sel v1 v2 v3 v4 v5 (i + (j - K))) (i + (j - K)) else f (m + 1) j) ∧ (∀ x, x ≠ m → x ≠ m + 1 → f' x = f x) ∧ ∀ j, j ≠ 1 → f' m j = f m j := by
      unfold F_X10_feed_76
      rw [m_gr h0 p9, m_gi h0, h, m_ne (show (4 : Int32) ≠ 0 by decide), q_byt_m _ (show i < 20 by omega), m_stn s1 (show K < 600 by omega) (by omega), m_gi h0, ax2_n _ _ _ _ (show m ≠ m + 1 by omega), h, m_pi h0, qi_s, qi_s]
      obtain ⟨f', e, a1, a2, a3, a4⟩ := ih (i + 1) fu (K + 1) (ax2 (ax2 f (m + 1) K (q_byt (q_sel v1 v2 v3 v4 v5 i) i)) m 1 (Int32.ofNat (K + 1))) (by omega) (by omega) (by omega) (ax2_k _ _ _ _)
      have eK : K + 1 + n = K + (n + 1) := by omega
      rw [eK] at e a1
      refine ⟨f', e, a1, fun j => ?_, fun x p q => by rw [a3 x p q, ax2_n _ _ _ _ p, ax2_n _ _ _ _ q], fun j hj => by rw [a4 j hj, ax2_j _ _ _ _ _ hj, ax2_n _ _ _ _ (show m ≠ m + 1 by omega)]⟩
      rw [a2 j, ax2_n _ _ _ _ (show m + 1 ≠ m by omega), ax2_a]
      by_cases c1 : j = K
      · subst c1
        rw [if_neg (by omega), if_pos rfl, if_pos (by omega), Nat.sub_self, Nat.add_zero]
      · by_cases c2 : K + 1 ≤ j ∧ j < K + 1 + n
        · rw [if_pos c2, if_pos (by omega), show i + 1 + (j - (K + 1)) = i + (j - K) by omega]
        · rw [if_neg c2, if_neg c1, if_neg (by omega)]
    show ∃ f', F_X10_feed_23b N (F_X10_feed_23 N fu) m v1 v2 v3 v4 v5 (Int32.ofNat i) (axM Z f) = _ ∧ _
    unfold F_X10_feed_23b
    rw [if_neg (show ¬ (20 : Int32) ≤ Int32.ofNat i from qi_nge (i := 20) (by omega) (by omega))]
    unfold q_sel at step
    by_cases d1 : i < 4
    · rw [if_pos d1] at step
      rw [if_neg (show ¬ (4 : Int32) ≤ Int32.ofNat i from qi_nge (i := 4) (by omega) (by omega))]
      exact step
    rw [if_neg d1] at step
    rw [if_pos (show (4 : Int32) ≤ Int32.ofNat i from qi_ge (i := 4) (by omega) (by omega))]
    by_cases d2 : i < 8
    · rw [if_pos d2] at step
      rw [if_neg (show ¬ (8 : Int32) ≤ Int32.ofNat i from qi_nge (i := 8) (by omega) (by omega))]
      exact step
    rw [if_neg d2] at step
    rw [if_pos (show (8 : Int32) ≤ Int32.ofNat i from qi_ge (i := 8) (by omega) (by omega))]
    by_cases d3 : i < 12
    · rw [if_pos d3] at step
      rw [if_neg (show ¬ (12 : Int32) ≤ Int32.ofNat i from qi_nge (i := 12) (by omega) (by omega))]
      exact step
    rw [if_neg d3] at step
    rw [if_pos (show (12 : Int32) ≤ Int32.ofNat i from qi_ge (i := 12) (by omega) (by omega))]
    by_cases d4 : i < 16
    · rw [if_pos d4] at step
      rw [if_neg (show ¬ (16 : Int32) ≤ Int32.ofNat i from qi_nge (i := 16) (by omega) (by omega))]
      exact step
    rw [if_neg d4] at step
    rw [if_pos (show (16 : Int32) ≤ Int32.ofNat i from qi_ge (i := 16) (by omega) (by omega))]
    exact step
theorem qm_feed (hN : 2000 < N) (h : MA Z m f ψ l r β nl nb t pl rs c0 c1 nw wk ni im) (hV : VA ψ nb t nw wk ni im) (v1 v2 v3 v4 v5 : Int32) : (nb + 20 ≤ 600 → ∃ f', F_X10_feed N m v1 v2 v3 v4 v5 (axM Z f) = some (Int32.ofNat (nb + 20), axM Z f') ∧ MA Z m f' ψ l r β nl (nb + 20) (q_fd t nb v1 v2 v3 v4 v5) pl rs c0 c1 nw wk ni im ∧ MK Z m f f') ∧ (¬ nb + 20 ≤ 600 → F_X10_feed N m v1 v2 v3 v4 v5 (axM Z f) = some (-1, axM Z (ax2 f m 0 0))) := by
  have hm := h.1.1
  have h0 := hm.1
  have hnb := hV.1
  have k1 := h.2.2.1
  have k2 := h.2.2.2.1
  have eadd : Int32.ofNat nb + 20 = Int32.ofNat (nb + 20) := qi_add nb 20
  unfold F_X10_feed
  rw [m_pi h0, m_gi h0, ax2_j _ _ _ _ _ (by omega), k1, eadd]
  refine ⟨fun c => ?_, fun c => ?_⟩
  · obtain ⟨f', e, a1, a2, a3, a4⟩ := qm_feed_l (N := N) hm v1 v2 v3 v4 v5 20 0 N nb (ax2 f m 0 0) (by omega) (by omega) c (by rw [ax2_j _ _ _ _ _ (by omega), k1])
    rw [if_pos (show Int32.ofNat (nb + 20) ≤ 600 from qi_ge (j := 600) c (by omega))]
    refine ⟨f', e, h.tp (fun x p q => by rw [a3 x p q, ax2_n _ _ _ _ p]) a1 (fun k p q => by rw [a4 k q, ax2_j _ _ _ _ _ p]) (fun j hj => ?_), by rw [a4 0 (by omega), ax2_k], fun x hx => by rw [a3 x (by omega) (by omega), ax2_n _ _ _ _ (by omega)]⟩
    rw [a2 j]
    unfold q_fd
    rw [Nat.zero_add]
    by_cases c0 : nb ≤ j ∧ j < nb + 20
    · rw [if_pos c0, if_pos c0]
    · rw [if_neg c0, if_neg c0, ax2_n _ _ _ _ (by omega), k2 j hj]
  · rw [if_neg (show ¬ Int32.ofNat (nb + 20) ≤ 600 from qi_nge (j := 600) (by omega) (by omega))]
theorem VA.fd (hV : VA ψ nb t nw wk ni im) (c : nb + 20 ≤ 600) (v1 v2 v3 v4 v5 : Int32) : VA ψ (nb + 20) (q_fd t nb v1 v2 v3 v4 v5) nw wk ni im := by
  refine ⟨c, fun j hj => ?_, hV.2.2⟩
  unfold q_fd
  by_cases c0 : nb ≤ j ∧ j < nb + 20
  · rw [if_pos c0]
    exact q_byt_b _ _
  · rw [if_neg c0]
    exact hV.2.1 j hj
end
