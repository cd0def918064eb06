/-! steps: what their numbers are -/
def q_evl (ψ : QF) (q : QE) : Prop := q.1 < 7 ∧ (q.1 = 0 ∨ q.1 = 3 → 1 ≤ q.2.1 ∧ q.2.1 ≤ 999) ∧ (q.1 = 1 → q.2.1 < (ψ 0 3).toNatClampNeg) ∧ (q.1 = 4 → q.2.1 < (ψ 0 5).toNatClampNeg ∧ q.2.2.1 < (ψ 0 5).toNatClampNeg) ∧ (q.1 = 6 → q.2.1 ≤ 30)
section
variable {t : QR} {n p op len : Nat} {ψ : QF}
theorem q_nok_m1 {c : Nat} (hc : c ≤ 8) (h : q_nok t n p 0 (Int32.ofNat c - 1)) : q_num t n (q_bl t n p) < c := by
  rcases Nat.eq_zero_or_pos c with e | e
  · rw [e] at h
    exact absurd (Int32.le_trans h.2.1 h.2.2) (by decide)
  · rw [qi_m2 e] at h
    have := (q_nok_b (lo := 0) (hi := c - 1) h (by omega) (by omega)).2
    omega
theorem q_nu_v {k : Nat} (hk : k < 7) (hw : q_fw ψ) (hp : p ≤ n) {v : Nat × Nat × Nat} (h : q_nu t n ψ k p = .inr v) (e : Option Nat) : q_evl ψ (k, v.1, v.2.1, e) := by
  obtain ⟨⟨nv, v1, v2, v3⟩, -, ⟨nm, m1, m2, m3⟩, -⟩ := q_fw_n hw
  have F6 := (q_nu_f (t := t) (ψ := ψ) (k := k) hp).2 v h
  refine ⟨hk, fun c => ?_, fun c => ?_, fun c => ?_, fun c => F6.2.2 c⟩
  · have c : k = 0 ∨ k = 3 := c
    unfold q_nu at h
    rw [if_pos c] at h
    rcases e1 : q_nu1 t n 1 999 p with z | a
    · rw [e1, q_bd_l rfl] at h
      cases h
    rw [e1, q_bd_r rfl] at h
    cases h
    obtain ⟨-, -, a3, a4⟩ := (q_nu1_f hp).2 a e1
    show 1 ≤ a.1 ∧ a.1 ≤ 999
    rw [a4]
    exact q_nok_b (lo := 1) (hi := 999) a3 (by omega) (by omega)
  · have c : k = 1 := c
    unfold q_nu at h
    rw [if_neg (show ¬ (k = 0 ∨ k = 3) by omega), if_pos c] at h
    rcases e1 : q_nu1 t n 0 (ψ 0 3 - 1) p with z | a
    · rw [e1, q_bd_l rfl] at h
      cases h
    rw [e1, q_bd_r rfl] at h
    cases h
    obtain ⟨-, -, a3, a4⟩ := (q_nu1_f hp).2 a e1
    show a.1 < _
    rw [a4, v3]
    rw [v2] at a3
    exact q_nok_m1 (by omega) a3
  · have c : k = 4 := c
    unfold q_nu at h
    rw [if_neg (show ¬ (k = 0 ∨ k = 3) by omega), if_neg (show ¬ k = 1 by omega), if_pos c] at h
    rcases e1 : q_nu1 t n 0 (ψ 0 5 - 1) p with z | a
    · rw [e1, q_bd_l rfl] at h
      cases h
    rw [e1, q_bd_r rfl] at h
    obtain ⟨-, a2, a3, a4⟩ := (q_nu1_f hp).2 a e1
    rcases e2 : q_nu1 t n 0 (ψ 0 5 - 1) a.2 with z | d
    · rw [e2, q_bd_l rfl] at h
      cases h
    rw [e2, q_bd_r rfl] at h
    cases h
    obtain ⟨-, -, c3, c4⟩ := (q_nu1_f a2).2 d e2
    show a.1 < _ ∧ d.1 < _
    rw [a4, c4, m3]
    rw [m2] at a3 c3
    exact ⟨q_nok_m1 m1 a3, q_nok_m1 m1 c3⟩
def q_vls (ψ : QF) (o : QO5) : Prop := ∀ z, o = .inr z → ∀ q ∈ z.1, q_evl ψ q
theorem q_stp_v {kr : Nat → Nat → QO5} (hw : q_fw ψ) (hk : op < 6 → ∀ len p, p ≤ n → q_vls ψ (kr len p)) (hp : p ≤ n) : q_vls ψ (q_stp kr t n ψ op len p) := by
  intro z h
  obtain ⟨w1, w2, -⟩ := q_skp_b q_isL t hp
  change q_wrl t n p ≤ n at w2
  unfold q_stp at h
  rcases q_kd_b t p (q_wrl t n p) with c7 | ⟨c7, cw⟩
  · rw [if_pos c7] at h
    cases h
  rw [if_neg (by omega)] at h
  by_cases c6 : q_kd t p (q_wrl t n p) = 6 ∧ 6 ≤ op
  · rw [if_pos c6] at h
    cases h
  rw [if_neg c6] at h
  rcases e1 : q_nu t n ψ (q_kd t p (q_wrl t n p)) (q_wrl t n p) with y | v
  · rw [e1, q_bd_l rfl] at h
    cases h
  rw [e1, q_bd_r rfl] at h
  have hv := q_nu_v c7 hw w2 e1
  obtain ⟨-, v2, -⟩ := (q_nu_f (t := t) (ψ := ψ) (k := q_kd t p (q_wrl t n p)) w2).2 v e1
  by_cases d6 : q_kd t p (q_wrl t n p) = 6
  · rw [if_pos d6] at h
    rw [d6] at hv
    have hv6 := (hv none).2.2.2.2 rfl
    rcases e2 : q_tk t n 91 v.2.2 with y | p2
    · rw [e2, q_bd_l rfl] at h
      cases h
    rw [e2, q_bd_r rfl] at h
    obtain ⟨a1, a2⟩ := (q_tk_f (by decide) v2).2 p2 e2
    rcases e3 : kr (len + 1) p2 with y | C
    · rw [e3, q_bd_l rfl] at h
      cases h
    rw [e3, q_bd_r rfl] at h
    have K := hk (by omega) (len + 1) p2 a2 C e3
    rcases e4 : q_tk t n 93 C.2 with y | p3
    · rw [e4, q_bd_l rfl] at h
      cases h
    rw [e4, q_bd_r rfl] at h
    rcases e5 : q_tk t n 59 p3 with y | p4
    · rw [e5, q_bd_l rfl] at h
      cases h
    rw [e5, q_bd_r rfl] at h
    cases h
    intro q hq
    rcases List.mem_cons.mp hq with e | e
    · rw [e]
      exact ⟨by show (6 : Nat) < 7; omega, fun c => absurd c (by show ¬ ((6 : Nat) = 0 ∨ (6 : Nat) = 3); omega), fun c => absurd c (by show ¬ (6 : Nat) = 1; omega), fun c => absurd c (by show ¬ (6 : Nat) = 4; omega), fun _ => hv6⟩
    · exact K q e
  · rw [if_neg d6] at h
    rcases e2 : q_tk t n 59 v.2.2 with y | p4
    · rw [e2, q_bd_l rfl] at h
      cases h
    rw [e2, q_bd_r rfl] at h
    cases h
    intro q hq
    rw [List.mem_singleton.mp hq]
    exact hv _
theorem q_row_v {stp : Nat → Nat → QO5} {un : Int32} (hf : ∀ len p, p ≤ n → q_sft op len p n (stp len p)) (hs : ∀ len p, p ≤ n → q_vls ψ (stp len p)) : ∀ k len p, p ≤ n → q_vls ψ (q_row stp t n un k len p) := by
  intro k
  induction k with
  | zero =>
    intro len p hp z h q hq
    cases h
    exact absurd hq (List.not_mem_nil)
  | succ k ih =>
    intro len p hp z h
    have b2 := (q_skp_b q_isB t hp).2.1
    change q_bl t n p ≤ n at b2
    unfold q_row at h
    by_cases c : q_B t n (q_bl t n p) = un
    · rw [if_pos c] at h
      cases h
      intro q hq
      exact absurd hq (List.not_mem_nil)
    rw [if_neg c] at h
    rcases e1 : stp len (q_bl t n p) with y | a
    · rw [e1, q_bd_l rfl] at h
      cases h
    rw [e1, q_bd_r rfl] at h
    have a2 := ((hf len _ b2).2 a e1).2.1
    have A := hs len _ b2 a e1
    rcases e2 : q_row stp t n un k (len + a.1.length) a.2 with y | w
    · rw [e2, q_bd_l rfl] at h
      cases h
    rw [e2, q_bd_r rfl] at h
    have W := ih (len + a.1.length) a.2 a2 w e2
    cases h
    intro q hq
    rcases List.mem_append.mp hq with e | e
    · exact A q e
    · exact W q e
theorem q_RW_v (hw : q_fw ψ) : ∀ d op len p, op ≤ 6 → 7 ≤ d + op → p ≤ n → q_vls ψ (q_RW t n ψ d op len p) := by
  intro d
  induction d with
  | zero => intro op len p h1 h2; omega
  | succ d ih =>
    intro op len p h1 h2 hp
    unfold q_RW
    exact q_row_v (op := op) (fun len p hp => q_stp_f (fun h len p hp => q_RW_f d (op + 1) len p (by omega) (by omega) hp) hp) (fun len p hp => q_stp_v hw (fun h len p hp => ih (op + 1) len p (by omega) (by omega) hp) hp) 150 len p hp
end
