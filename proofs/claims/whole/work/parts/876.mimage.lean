/-! images: the model -/
section
variable {Z : AxS} {b m N : Nat} {f g : Nat → Nat → Int32} {ψ : QF} {l : QL} {r β : QR} {nl nb : Nat} {t : QR} {pl rs c0 c1 : Int32} {nw : Nat} {wk : Nat → QR} {ni : Nat} {im : QI}
def q_bkI (bk : Bool) : Int32 := if bk = true then 1 else 0
def q_pv (bk : Bool) (f : Nat → Nat → Int32) (a s : Nat) (v : Int32) : Int32 := if bk = true then f a s else v
def q_pf (bk : Bool) (f : Nat → Nat → Int32) (a s : Nat) (v : Int32) : Nat → Nat → Int32 := if bk = true then f else ax2 f a s v
theorem qm_puts (N : Nat) (bk : Bool) (h0 : axL Z m = some (0, 10)) {a s : Nat} (ha : axL Z a = some (1, 494)) (hd : m ≠ a) (hs : s < 494) (h : f m 35 = Int32.ofNat s) (v : Int32) : F_X10_puts N m a v (q_bkI bk) (axM Z f) = some (q_pv bk f a s v, axM Z (ax2 (q_pf bk f a s v) m 35 (Int32.ofNat (s + 1)))) := by
  unfold F_X10_puts F_X10_puts_11 q_bkI q_pv q_pf
  cases bk with
  | true =>
    rw [if_pos rfl, if_pos rfl, if_pos rfl, if_neg (show ¬ (1 : Int32) = 0 by decide), m_gi h0, h, m_pi h0, qi_s, m_gi h0, ax2_k, qi_m2 (by omega), Nat.add_sub_cancel, m_ldn ha hs (by omega), ax2_n _ _ _ _ (Ne.symm hd)]
  | false =>
    rw [if_neg (show ¬ false = true by decide), if_neg (show ¬ false = true by decide), if_neg (show ¬ false = true by decide), if_pos rfl, m_gi h0, h, m_stn ha hs (by omega), m_gi h0, ax2_n _ _ _ _ hd, h, m_pi h0, qi_s, m_gi h0, ax2_k, qi_m2 (by omega), Nat.add_sub_cancel, m_ldn ha hs (by omega), ax2_n _ _ _ _ (Ne.symm hd), ax2_k]
/-- what a row of puts does: row d against the places from s on -/
def PRw (bk : Bool) (s d a m k : Nat) (f f' : Nat → Nat → Int32) : Prop := f' m 35 = Int32.ofNat (s + 29) ∧ (∀ j, j ≠ 35 → f' m j = f m j) ∧ (∀ x, x ≠ m → x ≠ a → x ≠ d → f' x = f x) ∧ (∀ j, f' a j = if bk = false ∧ s + k ≤ j ∧ j < s + 29 then f d (j - s) else f a j) ∧ ∀ j, f' d j = if bk = true ∧ k ≤ j ∧ j < 29 then f a (s + j) else f d j
theorem PRw.rf (bk : Bool) {s d a : Nat} (h : f m 35 = Int32.ofNat (s + 29)) : PRw bk s d a m 29 f f := ⟨h, fun _ _ => rfl, fun _ _ _ _ => rfl, fun j => by rw [if_neg (by omega)], fun j => by rw [if_neg (by omega)]⟩
theorem PRw.st {bk : Bool} {s d a k : Nat} {f' : Nat → Nat → Int32} (hk : k < 29) (h1 : m ≠ a) (h2 : m ≠ d) (h3 : a ≠ d) (h : PRw bk s d a m (k + 1) (ax2 (ax2 (q_pf bk f a (s + k) (f d k)) m 35 (Int32.ofNat (s + k + 1))) d k (q_pv bk f a (s + k) (f d k))) f') : PRw bk s d a m k f f' := by
  obtain ⟨p1, p2, p3, p4, p5⟩ := h
  cases bk with
  | true =>
    have e1 : q_pf true f a (s + k) (f d k) = f := if_pos rfl
    have e2 : q_pv true f a (s + k) (f d k) = f a (s + k) := if_pos rfl
    rw [e1, e2] at p2 p3 p4 p5
    refine ⟨p1, fun j hj => ?_, fun x a1 a2 a3 => ?_, fun j => ?_, fun j => ?_⟩
    · rw [p2 j hj, ax2_n _ _ _ _ h2, ax2_j _ _ _ _ _ hj]
    · rw [p3 x a1 a2 a3, ax2_n _ _ _ _ a3, ax2_n _ _ _ _ a1]
    · rw [p4 j, if_neg (fun q => by cases q.1), if_neg (fun q => by cases q.1), ax2_n _ _ _ _ h3, ax2_n _ _ _ _ (Ne.symm h1)]
    · rw [p5 j, ax2_a]
      by_cases c : j = k
      · subst c
        rw [if_neg (by omega), if_pos rfl, if_pos ⟨rfl, by omega, by omega⟩]
      · by_cases c2 : k + 1 ≤ j ∧ j < 29
        · rw [if_pos ⟨rfl, c2⟩, if_pos ⟨rfl, by omega, by omega⟩, ax2_n _ _ _ _ h3, ax2_n _ _ _ _ (Ne.symm h1)]
        · rw [if_neg (fun q => c2 q.2), if_neg c, if_neg (fun q => by have := q.2; omega), ax2_n _ _ _ _ (Ne.symm h2)]
  | false =>
    have e1 : q_pf false f a (s + k) (f d k) = ax2 f a (s + k) (f d k) := if_neg (by decide)
    have e2 : q_pv false f a (s + k) (f d k) = f d k := if_neg (by decide)
    rw [e1, e2] at p2 p3 p4 p5
    have ed : ∀ j, ax2 (ax2 (ax2 f a (s + k) (f d k)) m 35 (Int32.ofNat (s + k + 1))) d k (f d k) d j = f d j := fun j => by
      rw [ax2_a]
      by_cases c : j = k
      · rw [if_pos c, c]
      · rw [if_neg c, ax2_n _ _ _ _ (Ne.symm h2), ax2_n _ _ _ _ (Ne.symm h3)]
    refine ⟨p1, fun j hj => ?_, fun x a1 a2 a3 => ?_, fun j => ?_, fun j => ?_⟩
    · rw [p2 j hj, ax2_n _ _ _ _ h2, ax2_j _ _ _ _ _ hj, ax2_n _ _ _ _ h1]
    · rw [p3 x a1 a2 a3, ax2_n _ _ _ _ a3, ax2_n _ _ _ _ a1, ax2_n _ _ _ _ a2]
    · rw [p4 j, ed, ax2_n _ _ _ _ h3, ax2_n _ _ _ _ (Ne.symm h1), ax2_a]
      by_cases c : j = s + k
      · subst c
        rw [if_neg (by omega), if_pos rfl, if_pos ⟨rfl, by omega, by omega⟩, Nat.add_sub_cancel_left]
      · by_cases c2 : s + (k + 1) ≤ j ∧ j < s + 29
        · rw [if_pos ⟨rfl, c2⟩, if_pos ⟨rfl, by omega, by omega⟩]
        · rw [if_neg (fun q => c2 q.2), if_neg c, if_neg (fun q => by have := q.2; omega)]
    · rw [p5 j, if_neg (fun q => by cases q.1), if_neg (fun q => by cases q.1), ed]
theorem qm_puts21 (bk : Bool) (hm : LMo Z m) {a : Nat} (ha : axL Z a = some (1, 494)) (hd : m ≠ a) (ha2 : a ≠ m + 440) : ∀ (n k fu : Nat) (f : Nat → Nat → Int32), k + n = 29 → n < fu → f m 35 = Int32.ofNat (1 + k) → ∃ f', F_X10_putsAll_21 N fu m a (q_bkI bk) (Int32.ofNat k) (axM Z f) = F_X10_putsAll_53 N N m a (q_bkI bk) 0 (axM Z f') ∧ PRw bk 1 (m + 440) a m k f f' := by
  have h0 := hm.1
  have p27 : axP Z m 27 = some (m + 440) := hm.2.1 27 440 rfl
  have s440 : axL Z (m + 440) = some (1, 29) := hm.2.2.1 440 _ rfl
  intro n
  induction n with
  | zero =>
    intro k fu f hk hfu h
    obtain ⟨fu, rfl⟩ : ∃ q, fu = q + 1 := ⟨fu - 1, by omega⟩
    show ∃ f', F_X10_putsAll_21b N (F_X10_putsAll_21 N fu) m a (q_bkI bk) (Int32.ofNat k) (axM Z f) = _ ∧ _
    unfold F_X10_putsAll_21b
    rw [if_pos (show (29 : Int32) ≤ Int32.ofNat k from qi_ge (i := 29) (by omega) (by omega))]
    obtain rfl : k = 29 := by omega
    exact ⟨f, rfl, PRw.rf bk h⟩
  | succ n ih =>
    intro k fu f hk hfu h
    obtain ⟨fu, rfl⟩ : ∃ q, fu = q + 1 := ⟨fu - 1, by omega⟩
    show ∃ f', F_X10_putsAll_21b N (F_X10_putsAll_21 N fu) m a (q_bkI bk) (Int32.ofNat k) (axM Z f) = _ ∧ _
    unfold F_X10_putsAll_21b
    rw [if_neg (show ¬ (29 : Int32) ≤ Int32.ofNat k from qi_nge (i := 29) (by omega) (by omega)), m_gr h0 p27, m_gr h0 p27, m_ldn s440 (show k < 29 by omega) (by omega), m_is h0, qm_puts N bk h0 ha hd (show 1 + k < 494 by omega) h, axB_s, m_stn s440 (show k < 29 by omega) (by omega), qi_s]
    obtain ⟨f', e, q⟩ := ih (k + 1) fu (ax2 (ax2 (q_pf bk f a (1 + k) (f (m + 440) k)) m 35 (Int32.ofNat (1 + k + 1))) (m + 440) k (q_pv bk f a (1 + k) (f (m + 440) k))) (by omega) (by omega) (by rw [ax2_n _ _ _ _ (by omega), ax2_k]; congr 1)
    exact ⟨f', e, q.st (by omega) hd (by omega) ha2⟩
theorem qm_puts62 (bk : Bool) (hm : LMo Z m) {a w : Nat} (hw : w < 16) (ha : axL Z a = some (1, 494)) (hd : m ≠ a) (ha2 : a ≠ m + 443 + w) (K : Nat → Nat → Int32 → Int32 → AxS → Option AxS) : ∀ (n k fu : Nat) (f : Nat → Nat → Int32), k + n = 29 → n < fu → f m 35 = Int32.ofNat (30 + 29 * w + k) → ∃ f', F_X10_putsAll_62 N K fu m a (q_bkI bk) (Int32.ofNat w) (Int32.ofNat k) (axM Z f) = K m a (q_bkI bk) (Int32.ofNat (w + 1)) (axM Z f') ∧ PRw bk (30 + 29 * w) (m + 443 + w) a m k f f' := by
  have h0 := hm.1
  have p29 : axP Z m 29 = some (m + 442) := hm.2.1 29 442 rfl
  have s442 : axL Z (m + 442) = some (3, 16) := hm.2.2.1 442 _ rfl
  obtain ⟨pr, sr⟩ : axP Z (m + 442) w = some (m + 443 + w) ∧ axL Z (m + 443 + w) = some (1, 29) := hm.2.2.2 442 16 29 rfl w hw
  intro n
  induction n with
  | zero =>
    intro k fu f hk hfu h
    obtain ⟨fu, rfl⟩ : ∃ q, fu = q + 1 := ⟨fu - 1, by omega⟩
    show ∃ f', F_X10_putsAll_62b N K (F_X10_putsAll_62 N K fu) m a (q_bkI bk) (Int32.ofNat w) (Int32.ofNat k) (axM Z f) = _ ∧ _
    unfold F_X10_putsAll_62b
    rw [if_pos (show (29 : Int32) ≤ Int32.ofNat k from qi_ge (i := 29) (by omega) (by omega)), qi_s]
    obtain rfl : k = 29 := by omega
    exact ⟨f, rfl, PRw.rf bk h⟩
  | succ n ih =>
    intro k fu f hk hfu h
    obtain ⟨fu, rfl⟩ : ∃ q, fu = q + 1 := ⟨fu - 1, by omega⟩
    show ∃ f', F_X10_putsAll_62b N K (F_X10_putsAll_62 N K fu) m a (q_bkI bk) (Int32.ofNat w) (Int32.ofNat k) (axM Z f) = _ ∧ _
    unfold F_X10_putsAll_62b
    rw [if_neg (show ¬ (29 : Int32) ≤ Int32.ofNat k from qi_nge (i := 29) (by omega) (by omega)), m_gr h0 p29, m_ldrn (t := 0) s442 (by omega) hw (by omega) pr, m_gr h0 p29, m_ldrn (t := 0) s442 (by omega) hw (by omega) pr, m_ldn sr (show k < 29 by omega) (by omega), m_is h0, qm_puts N bk h0 ha hd (show 30 + 29 * w + k < 494 by omega) h, axB_s, m_stn sr (show k < 29 by omega) (by omega), qi_s]
    obtain ⟨f', e, q⟩ := ih (k + 1) fu (ax2 (ax2 (q_pf bk f a (30 + 29 * w + k) (f (m + 443 + w) k)) m 35 (Int32.ofNat (30 + 29 * w + k + 1))) (m + 443 + w) k (q_pv bk f a (30 + 29 * w + k) (f (m + 443 + w) k))) (by omega) (by omega) (by rw [ax2_n _ _ _ _ (by omega), ax2_k]; congr 1)
    exact ⟨f', e, q.st (by omega) hd (by omega) ha2⟩
theorem qm_puts53 (hN : 2000 < N) (bk : Bool) (hm : LMo Z m) {a : Nat} (ha : axL Z a = some (1, 494)) (ha2 : m + 458 < a) : ∀ (n w fu : Nat) (f : Nat → Nat → Int32), w + n = 16 → n < fu → f m 35 = Int32.ofNat (30 + 29 * w) → ∃ f', F_X10_putsAll_53 N fu m a (q_bkI bk) (Int32.ofNat w) (axM Z f) = some (axM Z f') ∧ (∀ j, j ≠ 35 → f' m j = f m j) ∧ (∀ x, x ≠ m → x ≠ a → ¬ (m + 443 + w ≤ x ∧ x ≤ m + 458) → f' x = f x) ∧ (bk = false → (∀ v, w ≤ v → v < 16 → ∀ j, j < 29 → f' a (30 + 29 * v + j) = f (m + 443 + v) j) ∧ (∀ j, j < 30 + 29 * w → f' a j = f a j) ∧ ∀ v, v < 16 → f' (m + 443 + v) = f (m + 443 + v)) ∧ (bk = true → f' a = f a ∧ ∀ v, w ≤ v → v < 16 → ∀ j, j < 29 → f' (m + 443 + v) j = f a (30 + 29 * v + j)) := by
  intro n
  induction n with
  | zero =>
    intro w fu f hw hfu h
    obtain ⟨fu, rfl⟩ : ∃ q, fu = q + 1 := ⟨fu - 1, by omega⟩
    show ∃ f', F_X10_putsAll_53b N (F_X10_putsAll_53 N fu) m a (q_bkI bk) (Int32.ofNat w) (axM Z f) = _ ∧ _
    unfold F_X10_putsAll_53b
    rw [if_pos (show (16 : Int32) ≤ Int32.ofNat w from qi_ge (i := 16) (by omega) (by omega))]
    exact ⟨f, rfl, fun _ _ => rfl, fun _ _ _ _ => rfl, fun _ => ⟨fun v h1 h2 => by omega, fun _ _ => rfl, fun _ _ => rfl⟩, fun _ => ⟨rfl, fun v h1 h2 => by omega⟩⟩
  | succ n ih =>
    intro w fu f hw hfu h
    obtain ⟨fu, rfl⟩ : ∃ q, fu = q + 1 := ⟨fu - 1, by omega⟩
    show ∃ f', F_X10_putsAll_53b N (F_X10_putsAll_53 N fu) m a (q_bkI bk) (Int32.ofNat w) (axM Z f) = _ ∧ _
    unfold F_X10_putsAll_53b
    rw [if_neg (show ¬ (16 : Int32) ≤ Int32.ofNat w from qi_nge (i := 16) (by omega) (by omega))]
    obtain ⟨f1, e1, q1, q2, q3, q4, q5⟩ := qm_puts62 (N := N) bk hm (show w < 16 by omega) ha (show m ≠ a by omega) (show a ≠ m + 443 + w by omega) (F_X10_putsAll_53 N fu) 29 0 N f (by omega) (by omega) h
    obtain ⟨f2, e2, r2, r3, r4, r5⟩ := ih (w + 1) fu f1 (by omega) (by omega) (by rw [q1]; congr 1)
    refine ⟨f2, Eq.trans e1 e2, fun j hj => by rw [r2 j hj, q2 j hj], fun x a1 a2 a3 => by rw [r3 x a1 a2 (by omega), q3 x a1 a2 (by omega)], fun hb => ?_, fun hb => ?_⟩
    · obtain ⟨s1, s2, s3⟩ := r4 hb
      have ed : f1 (m + 443 + w) = f (m + 443 + w) := by
        funext j
        rw [q5 j, if_neg (fun q => by rw [hb] at q; cases q.1)]
      have eo : ∀ v, v < 16 → f1 (m + 443 + v) = f (m + 443 + v) := fun v hv => by
        by_cases c : v = w
        · rw [c, ed]
        · exact q3 _ (by omega) (by omega) (by omega)
      refine ⟨fun v h1 h2 j hj => ?_, fun j hj => ?_, fun v hv => by rw [s3 v hv, eo v hv]⟩
      · by_cases c : v = w
        · subst c
          rw [s2 _ (by omega), q4, if_pos ⟨hb, by omega, by omega⟩, Nat.add_sub_cancel_left]
        · rw [s1 v (by omega) h2 j hj, eo v h2]
      · rw [s2 j (by omega), q4, if_neg (by omega)]
    · obtain ⟨s1, s2⟩ := r5 hb
      have ea : f1 a = f a := by
        funext j
        rw [q4 j, if_neg (fun q => by rw [hb] at q; cases q.1)]
      refine ⟨by rw [s1, ea], fun v h1 h2 j hj => ?_⟩
      by_cases c : v = w
      · subst c
        rw [r3 _ (by omega) (by omega) (by omega), q5 j, if_pos ⟨hb, by omega, hj⟩]
      · rw [s2 v (by omega) h2 j hj, ea]
theorem qm_putsAll (hN : 2000 < N) (bk : Bool) (hm : LMo Z m) {a : Nat} (ha : axL Z a = some (1, 494)) (ha2 : m + 458 < a) (f : Nat → Nat → Int32) : ∃ f', F_X10_putsAll N m a (q_bkI bk) (axM Z f) = some (axM Z f') ∧ (bk = false → f' a 0 = f m 32 ∧ (∀ k, k < 29 → f' a (1 + k) = f (m + 440) k) ∧ (∀ w, w < 16 → ∀ k, k < 29 → f' a (30 + 29 * w + k) = f (m + 443 + w) k) ∧ (∀ x, x ≠ m → x ≠ a → f' x = f x) ∧ ∀ k, k ≠ 35 → f' m k = f m k) ∧ (bk = true → f' m 32 = f a 0 ∧ (∀ k, k < 29 → f' (m + 440) k = f a (1 + k)) ∧ (∀ w, w < 16 → ∀ k, k < 29 → f' (m + 443 + w) k = f a (30 + 29 * w + k)) ∧ (∀ x, x ≠ m → x ≠ m + 440 → ¬ (m + 443 ≤ x ∧ x ≤ m + 458) → f' x = f x) ∧ ∀ k, k ≠ 35 → k ≠ 32 → f' m k = f m k) := by
  have h0 := hm.1
  unfold F_X10_putsAll
  rw [m_pi h0, m_gi h0, ax2_j _ _ _ _ _ (show (32 : Nat) ≠ 35 by omega), m_is h0, qm_puts (s := 0) (f := ax2 f m 35 0) N bk h0 ha (show m ≠ a by omega) (by omega) (ax2_k _ _ _ _), axB_s, m_pi h0]
  -- what stands ahead of the rows
  obtain ⟨F, hF, F35, Fm, Fo, Ff, Ft⟩ : ∃ F, F = ax2 (ax2 (q_pf bk (ax2 f m 35 0) a 0 (f m 32)) m 35 (Int32.ofNat (0 + 1))) m 32 (q_pv bk (ax2 f m 35 0) a 0 (f m 32)) ∧ F m 35 = Int32.ofNat (1 + 0) ∧ (∀ j, j ≠ 35 → j ≠ 32 → F m j = f m j) ∧ (∀ x, x ≠ m → x ≠ a → F x = f x) ∧ (bk = false → F a 0 = f m 32 ∧ F m 32 = f m 32) ∧ (bk = true → F a = f a ∧ F m 32 = f a 0) := by
    refine ⟨_, rfl, ?_, fun j p q => ?_, fun x p q => ?_, fun hb => ?_, fun hb => ?_⟩
    · rw [ax2_j _ _ _ _ _ (by omega), ax2_k]
    · rw [ax2_j _ _ _ _ _ q, ax2_j _ _ _ _ _ p]
      unfold q_pf
      cases bk with
      | true => rw [if_pos rfl, ax2_j _ _ _ _ _ p]
      | false => rw [if_neg (by decide), ax2_n _ _ _ _ (by omega), ax2_j _ _ _ _ _ p]
    · rw [ax2_n _ _ _ _ p, ax2_n _ _ _ _ p]
      unfold q_pf
      cases bk with
      | true => rw [if_pos rfl, ax2_n _ _ _ _ p]
      | false => rw [if_neg (by decide), ax2_n _ _ _ _ q, ax2_n _ _ _ _ p]
    · subst hb
      unfold q_pf q_pv
      rw [if_neg (by decide), if_neg (by decide), ax2_n _ _ _ _ (show a ≠ m by omega), ax2_n _ _ _ _ (show a ≠ m by omega), ax2_k, ax2_k]
      exact ⟨rfl, rfl⟩
    · subst hb
      unfold q_pf q_pv
      rw [if_pos rfl, if_pos rfl, ax2_n _ _ _ _ (show a ≠ m by omega), ax2_n _ _ _ _ (show a ≠ m by omega), ax2_n _ _ _ _ (show a ≠ m by omega), ax2_k]
      exact ⟨rfl, rfl⟩
  rw [← hF]
  obtain ⟨f1, e1, q1, q2, q3, q4, q5⟩ := qm_puts21 (N := N) bk hm ha (show m ≠ a by omega) (show a ≠ m + 440 by omega) 29 0 N F (by omega) (by omega) F35
  obtain ⟨f2, e2, r2, r3, r4, r5⟩ := qm_puts53 (N := N) hN bk hm ha ha2 16 0 N f1 (by omega) (by omega) q1
  refine ⟨f2, Eq.trans e1 e2, fun hb => ?_, fun hb => ?_⟩
  · obtain ⟨s1, s2, s3⟩ := r4 hb
    obtain ⟨t1, t2⟩ := Ff hb
    have ed : f1 (m + 440) = f (m + 440) := by
      funext j
      rw [q5 j, if_neg (fun q => by rw [hb] at q; cases q.1), Fo _ (by omega) (by omega)]
    have e443 : ∀ w, w < 16 → f1 (m + 443 + w) = f (m + 443 + w) := fun w hw => by rw [q3 _ (by omega) (by omega) (by omega), Fo _ (by omega) (by omega)]
    refine ⟨by rw [s2 0 (by omega), q4, if_neg (by omega), t1], fun k hk => ?_, fun w hw k hk => by rw [s1 w (by omega) hw k hk, e443 w hw], fun x p q => ?_, fun k hk => ?_⟩
    · rw [s2 _ (by omega), q4, if_pos ⟨hb, by omega, by omega⟩, Nat.add_sub_cancel_left, Fo _ (by omega) (by omega)]
    · by_cases c : m + 443 ≤ x ∧ x ≤ m + 458
      · obtain ⟨w, rfl⟩ : ∃ w, x = m + 443 + w := ⟨x - (m + 443), by omega⟩
        rw [s3 w (by omega), e443 w (by omega)]
      · rw [r3 x p q (by omega)]
        by_cases c2 : x = m + 440
        · rw [c2, ed]
        · rw [q3 x p q c2, Fo x p q]
    · rw [r2 k hk, q2 k hk]
      by_cases c : k = 32
      · rw [c, t2]
      · exact Fm k hk c
  · obtain ⟨s1, s2⟩ := r5 hb
    obtain ⟨t1, t2⟩ := Ft hb
    have ea : f1 a = f a := by
      funext j
      rw [q4 j, if_neg (fun q => by rw [hb] at q; cases q.1), t1]
    refine ⟨by rw [r2 32 (by omega), q2 32 (by omega), t2], fun k hk => ?_, fun w hw k hk => by rw [s2 w (by omega) hw k hk, ea], fun x p q s => ?_, fun k hk h32 => by rw [r2 k hk, q2 k hk, Fm k hk h32]⟩
    · rw [r3 _ (by omega) (by omega) (by omega), q5 k, if_pos ⟨hb, by omega, hk⟩, t1]
    · by_cases c : x = a
      · rw [c, s1, ea]
      · rw [r3 x p c (by omega), q3 x p c q, Fo x p c]
theorem rdI_e {a o : Nat} (h : ∀ k, k < 29 → f a (o + k) = r k) (hz : ∀ k, 29 ≤ k → r k = 0) : rdI f a o = r := by
  funext k
  unfold rdI
  by_cases c : k < 29
  · rw [if_pos c, h k c]
  · rw [if_neg c, hz k (by omega)]
theorem rdM_z (f : Nat → Nat → Int32) (a : Nat) {k : Nat} (h : 29 ≤ k) : rdM f a k = 0 := if_neg (by omega)
theorem qm_image (hN : 2000 < N) (h : MA Z m f ψ l r β nl nb t pl rs c0 c1 nw wk ni im) (hV : VA ψ nb t nw wk ni im) : (ni = 3 → F_X10_image N m (axM Z f) = some (-1, axM Z (ax2 f m 0 0))) ∧ (ni < 3 → ∃ f', F_X10_image N m (axM Z f) = some (Int32.ofNat (ni + 1), axM Z f') ∧ MA Z m f' ψ l r β nl nb t pl rs c0 c1 nw wk (ni + 1) (q_im ni nw r wk im) ∧ MK Z m f f') := by
  obtain ⟨hH, hB, k1, k2, k3, k4, k5, k6, k7, k8, k9, k10⟩ := h
  obtain ⟨-, -, hnw, hwk, hni, -⟩ := hV
  have hm := hH.1
  have h0 := hm.1
  have hR := hH.2.2.2.2.2.1
  have p30 : axP Z m 30 = some (m + 459) := hm.2.1 30 459 rfl
  have s459 : axL Z (m + 459) = some (3, 3) := hm.2.2.1 459 _ rfl
  unfold F_X10_image
  rw [m_pi h0, m_gi h0, ax2_j _ _ _ _ _ (by omega), k9]
  refine ⟨fun e => ?_, fun l3 => ?_⟩
  · rw [if_pos (show Int32.ofNat ni = 3 by rw [e]; rfl)]
  obtain ⟨pr, sr⟩ : axP Z (m + 459) ni = some (m + 460 + ni) ∧ axL Z (m + 460 + ni) = some (1, 494) := hm.2.2.2 459 3 494 rfl ni l3
  obtain ⟨f1, e1, b1, -⟩ := qm_putsAll (N := N) hN false hm sr (by omega) (ax2 f m 0 0)
  obtain ⟨z0, z1, z2, z3, z4⟩ := b1 rfl
  have e1' : F_X10_putsAll N m (m + 460 + ni) 0 (axM Z (ax2 f m 0 0)) = some (axM Z f1) := e1
  have q34 : f1 m 34 = Int32.ofNat ni := by rw [z4 34 (by omega), ax2_j _ _ _ _ _ (by omega), k9]
  rw [if_neg (show ¬ Int32.ofNat ni = 3 from qi_ne (j := 3) (by omega) (by omega) (by omega)), m_gr h0 p30, m_gi h0, ax2_j _ _ _ _ _ (by omega), k9, m_ldrn (t := 0) s459 (by omega) l3 (by omega) pr, m_is h0, e1', axBV_s, m_gi h0, q34, m_pi h0, qi_s, m_gi h0, ax2_k]
  have o : ∀ x, x ≠ m → x ≠ m + 460 + ni → ax2 f1 m 34 (Int32.ofNat (ni + 1)) x = f x := fun x p q => by rw [ax2_n _ _ _ _ p, z3 x p q, ax2_n _ _ _ _ p]
  have om : ∀ k, k ≠ 0 → k ≠ 34 → k ≠ 35 → ax2 f1 m 34 (Int32.ofNat (ni + 1)) m k = f m k := fun k a c d => by rw [ax2_j _ _ _ _ _ c, z4 k d, ax2_j _ _ _ _ _ a]
  have oa : ax2 f1 m 34 (Int32.ofNat (ni + 1)) (m + 460 + ni) = f1 (m + 460 + ni) := ax2_n _ _ _ _ (by omega)
  refine ⟨ax2 f1 m 34 (Int32.ofNat (ni + 1)), rfl, ⟨hH.x (om 17 (by omega) (by omega) (by omega)) (fun x hx => o x (by omega) (by omega)), hB.x (om 31 (by omega) (by omega) (by omega)) (fun x p q => o x (by omega) (by omega)), by rw [om 1 (by omega) (by omega) (by omega), k1], fun j hj => by rw [o _ (by omega) (by omega), k2 j hj], by rw [om 3 (by omega) (by omega) (by omega), k3], by rw [om 33 (by omega) (by omega) (by omega), k4], by rw [o _ (by omega) (by omega), k5], by rw [o _ (by omega) (by omega), k6], by rw [om 32 (by omega) (by omega) (by omega), k7], fun w hw => ?_, ax2_k _ _ _ _, fun i hi => ?_⟩, ?_, fun x hx => o x (by omega) (by omega)⟩
  · rw [← k8 w hw]
    exact rdM_e fun k _ => by rw [o _ (by omega) (by omega)]
  · unfold q_im
    by_cases c : i = ni
    · subst c
      rw [if_pos rfl]
      refine ⟨?_, ?_, fun w hw => ?_⟩
      · rw [oa, z0, ax2_j _ _ _ _ _ (by omega), k7]
      · show rdI _ _ 1 = r
        refine rdI_e (fun k hk => ?_) fun k hk => ?_
        · rw [oa, z1 k hk, ax2_n _ _ _ _ (by omega), ← hR]
          exact rdM_k _ _ hk
        · rw [← hR]
          exact rdM_z _ _ hk
      · show rdI _ _ (30 + 29 * w) = wk w
        have hw : w < nw := hw
        refine rdI_e (fun k hk => ?_) fun k hk => ?_
        · rw [oa, z2 w (by omega) k hk, ax2_n _ _ _ _ (by omega), ← k8 w hw]
          exact rdM_k _ _ hk
        · rw [← k8 w hw]
          exact rdM_z _ _ hk
    · rw [if_neg c]
      obtain ⟨v1, v2, v3⟩ := k10 i (by omega)
      have ei := o (m + 460 + i) (by omega) (by omega)
      unfold rdI at v2 v3 ⊢
      rw [ei]
      exact ⟨v1, v2, v3⟩
  · rw [ax2_j _ _ _ _ _ (by omega), z4 0 (by omega), ax2_k]
theorem qm_restore (hN : 2000 < N) (h : MA Z m f ψ l r β nl nb t pl rs c0 c1 nw wk ni im) (hV : VA ψ nb t nw wk ni im) : (ni = 0 → F_X10_restore N m (axM Z f) = some (-1, axM Z (ax2 f m 0 0))) ∧ (0 < ni → ∃ f', F_X10_restore N m (axM Z f) = some (Int32.ofNat (ni - 1), axM Z f') ∧ MA Z m f' ψ l (im (ni - 1)).2.1 β nl nb t pl 0 c0 c1 (im (ni - 1)).1 (im (ni - 1)).2.2 (ni - 1) im ∧ MK Z m f f') := by
  obtain ⟨hH, hB, k1, k2, k3, k4, k5, k6, k7, k8, k9, k10⟩ := h
  obtain ⟨-, -, hnw, hwk, hni, him⟩ := hV
  obtain ⟨hm, hG, hw, ⟨l1, l2, l3⟩, hlw, -, -, -⟩ := hH
  have h0 := hm.1
  have p30 : axP Z m 30 = some (m + 459) := hm.2.1 30 459 rfl
  have s459 : axL Z (m + 459) = some (3, 3) := hm.2.2.1 459 _ rfl
  unfold F_X10_restore
  rw [m_pi h0, m_gi h0, ax2_j _ _ _ _ _ (by omega), k9]
  refine ⟨fun e => ?_, fun l0 => ?_⟩
  · rw [if_pos (show Int32.ofNat ni = 0 by rw [e]; rfl)]
  obtain ⟨u1, u2, u3⟩ := k10 (ni - 1) (by omega)
  obtain ⟨g1, ⟨g2, g3⟩, g4⟩ := him (ni - 1) (by omega)
  have hi3 : ni - 1 < 3 := by omega
  have e9 : ni = ni - 1 + 1 := by omega
  generalize ni - 1 = i at u1 u2 u3 g1 g2 g3 g4 hi3 e9 ⊢
  subst e9
  obtain ⟨pr, sr⟩ : axP Z (m + 459) i = some (m + 460 + i) ∧ axL Z (m + 460 + i) = some (1, 494) := hm.2.2.2 459 3 494 rfl i hi3
  obtain ⟨f1, e1, -, b1⟩ := qm_putsAll (N := N) hN true hm sr (by omega) (ax2 (ax2 f m 0 0) m 34 (Int32.ofNat i))
  obtain ⟨z0, z1, z2, z3, z4⟩ := b1 rfl
  have e1' : F_X10_putsAll N m (m + 460 + i) 1 (axM Z (ax2 (ax2 f m 0 0) m 34 (Int32.ofNat i))) = some (axM Z f1) := e1
  have fa : ax2 (ax2 f m 0 0) m 34 (Int32.ofNat i) (m + 460 + i) = f (m + 460 + i) := by rw [ax2_n _ _ _ _ (by omega), ax2_n _ _ _ _ (by omega)]
  rw [fa] at z0 z1 z2
  have q34 : f1 m 34 = Int32.ofNat i := by rw [z4 34 (by omega) (by omega), ax2_k]
  rw [if_neg (show ¬ Int32.ofNat (i + 1) = 0 from qi_ne (j := 0) (by omega) (by omega) (by omega)), m_gi h0, ax2_j _ _ _ _ _ (by omega), k9, m_pi h0, qi_m2 (by omega), Nat.add_sub_cancel, m_gr h0 p30, m_gi h0, ax2_k, m_ldrn (t := 0) s459 (by omega) hi3 (by omega) pr, m_is h0, e1', axBV_s, m_pi h0, m_gi h0, ax2_j _ _ _ _ _ (by omega), q34]
  have o : ∀ x, x ≠ m → x ≠ m + 440 → ¬ (m + 443 ≤ x ∧ x ≤ m + 458) → ax2 f1 m 33 0 x = f x := fun x p q s => by rw [ax2_n _ _ _ _ p, z3 x p q s, ax2_n _ _ _ _ p, ax2_n _ _ _ _ p]
  have om : ∀ k, k ≠ 0 → k ≠ 32 → k ≠ 33 → k ≠ 34 → k ≠ 35 → ax2 f1 m 33 0 m k = f m k := fun k a b c d e => by rw [ax2_j _ _ _ _ _ c, z4 k e b, ax2_j _ _ _ _ _ d, ax2_j _ _ _ _ _ a]
  refine ⟨ax2 f1 m 33 0, rfl, ⟨⟨hm, ?_, hw, ⟨by rw [om 17 (by omega) (by omega) (by omega) (by omega) (by omega), l1], l2, fun k q hq => ?_⟩, hlw, ?_, g2, g3⟩, hB.x (om 31 (by omega) (by omega) (by omega) (by omega) (by omega)) (fun x p q => o x (by omega) (by omega) (by omega)), by rw [om 1 (by omega) (by omega) (by omega) (by omega) (by omega), k1], fun j hj => by rw [o _ (by omega) (by omega) (by omega), k2 j hj], by rw [om 3 (by omega) (by omega) (by omega) (by omega) (by omega), k3], ax2_k _ _ _ _, by rw [o _ (by omega) (by omega) (by omega), k5], by rw [o _ (by omega) (by omega) (by omega), k6], by rw [ax2_j _ _ _ _ _ (by omega), z0, u1], fun w hw => ?_, by rw [ax2_j _ _ _ _ _ (by omega), q34], fun j hj => ?_⟩, ?_, fun x hx => o x (by omega) (by omega) (by omega)⟩
  · rw [← hG]
    exact rdG_x fun x hx => o x (by omega) (by omega) (by omega)
  · have := (List.getElem?_eq_some_iff.mp hq).1
    rw [o _ (by omega) (by omega) (by omega)]
    exact l3 k q hq
  · rw [← u2]
    funext k
    unfold rdM rdI
    by_cases c : k < 29
    · rw [if_pos c, if_pos c, ax2_n _ _ _ _ (by omega), z1 k c]
    · rw [if_neg c, if_neg c]
  · rw [← u3 w hw]
    funext k
    unfold rdM rdI
    by_cases c : k < 29
    · rw [if_pos c, if_pos c, ax2_n _ _ _ _ (by omega), z2 w (by omega) k c]
    · rw [if_neg c, if_neg c]
  · obtain ⟨v1, v2, v3⟩ := k10 j (by omega)
    have ei := o (m + 460 + j) (by omega) (by omega) (by omega)
    unfold rdI at v2 v3 ⊢
    rw [ei]
    exact ⟨v1, v2, v3⟩
  · rw [ax2_j _ _ _ _ _ (by omega), z4 0 (by omega) (by omega), ax2_j _ _ _ _ _ (by omega), ax2_k]
end
