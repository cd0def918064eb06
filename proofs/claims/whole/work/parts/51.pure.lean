/-! plain functions: rows of a state (place by place as the model has them), facts, a law, a night -/
abbrev QR : Type := Nat → Int32
abbrev QF : Type := Nat → Nat → Int32
def q_set (r : QR) (k : Nat) (v : Int32) : QR := fun j => if j = k then v else r j
theorem q_set_k (r : QR) (k : Nat) (v : Int32) : q_set r k v k = v := if_pos rfl
theorem q_set_n (r : QR) {k j : Nat} (v : Int32) (h : j ≠ k) : q_set r k v j = r j := if_neg h
def q_asks (r : QR) : Int32 := q_max 0 (r 0 - r 6)
def q_inp (r : QR) (st : Int32) : QR := fun k => match k with
  | 0 => q_asks r
  | 1 => r 4
  | 2 => r 2
  | 3 => r 3
  | 4 => r 5
  | 5 => st
  | 6 => r 1
  | _ => 0
def q_by (h u v : Int32) : Int32 := if h = 2 then u + v else if h = 3 then u - v else if h = 4 then u * v else if h = 5 then (if v = 0 then 0 else u / v) else if h = 6 then (if v = 0 then 0 else u - u / v * v) else if h = 7 then q_min u v else q_max u v
abbrev QL : Type := List (Int32 × Int32)
def q_ev : QL → QR → List Int32 → List Int32
  | [], _, st => st
  | q :: l, i, st => if q.1 = 0 then q_ev l i (q.2 :: st) else if q.1 = 1 then q_ev l i (i q.2.toNatClampNeg :: st) else match st with
    | b :: a :: st => q_ev l i (q_by q.1 a b :: st)
    | _ => []
def q_wf : QL → Nat → Prop
  | [], d => d = 1
  | q :: l, d => (q.1 = 0 ∧ (0 ≤ q.2 ∧ q.2 ≤ 999) ∧ d + 1 ≤ 32 ∧ q_wf l (d + 1)) ∨ (q.1 = 1 ∧ (0 ≤ q.2 ∧ q.2 ≤ 6) ∧ d + 1 ≤ 32 ∧ q_wf l (d + 1)) ∨ ((2 ≤ q.1 ∧ q.1 ≤ 8) ∧ 2 ≤ d ∧ q_wf l (d - 1))
def q_lawv (l : QL) (i : QR) : Int32 := if l = [] then i 0 / 10 else (q_ev l i []).headD 0
def q_toll (l : QL) (i : QR) : Int32 := q_min 999 (q_max 0 (q_lawv l i))
def q_str (l : QL) (r : QR) (st : Int32) : Int32 := q_min 999 (q_toll l (q_inp r st) + r 8)
def q_noise (ψ : QF) (c : Nat) (s w : Int32) : Int32 := s / (1 + ψ 3 c) / (1 + w)
def q_wk (ψ : QF) (r : QR) (s : Int32) (m : Nat) : Bool := decide (ψ 4 m < q_noise ψ (r (13 + m)).toNatClampNeg s (r 5))
def q_wakeL (ψ : QF) (s : Int32) (r : QR) : Nat → QR
  | 0 => r
  | n + 1 => if q_wk ψ r s n = true then q_set (q_set (q_wakeL ψ s r n) (21 + n) (q_wakeL ψ s r n (21 + n) + 1)) 10 (q_wakeL ψ s r n 10 + 1) else q_wakeL ψ s r n
def q_mon (r : QR) : Int32 := r 2 - r 2 / 12 * 12
def q_t25 (ψ : QF) (rate w : Int32) (r : QR) : QR := fun k => match k with
  | 0 => if q_mon r = 11 then q_min 99999 (r 0 + r 0 * rate / 100) else r 0
  | 1 => q_min 9999 (r 1 + ψ 1 (q_mon r).toNatClampNeg)
  | 2 => r 2 + 1
  | 3 => w
  | 4 => 0
  | 5 => 0
  | 6 => if q_max 0 (r 7 - 1) = 0 then 0 else r 6
  | 7 => q_max 0 (r 7 - 1)
  | 8 => if r 7 = 1 then r 6 else 0
  | 9 => r 9
  | 10 => r 10
  | 11 => 0
  | 12 => r 12
  | k + 13 => r (k + 13)
def q_turn (ψ : QF) (rate s : Int32) (r : QR) : QR := q_t25 ψ rate (if s = 0 then r 3 + 1 else 0) (q_set r 9 (r 9 + s))
def q_night (ψ : QF) (l : QL) (st : Int32) (r : QR) : QR := q_turn ψ (ψ 0 1) (q_str l r st) (q_wakeL ψ (q_str l r st) r (ψ 0 5).toNatClampNeg)
def q_can (r : QR) (n : Int32) : Bool := decide (n ≤ r 1) && decide (n ≤ r 0)
def q_pay (n : Int32) (r : QR) : QR := if q_can r n = true then q_set (q_set (q_set r 1 (r 1 - n)) 0 (r 0 - n)) 4 (r 4 + n) else r
def q_bit (g v : Int32) : Int32 := (g >>> (v &&& 31)) &&& 1
def q_give (v a : Int32) (r : QR) : QR := if q_bit (r 11) v = 1 then r else q_set (q_set r 11 (r 11 ||| (1 <<< (v &&& 31)))) 1 (q_min 9999 (r 1 + a))
/-- facts that may be told -/
def q_fw (ψ : QF) : Prop := (∃ nv nc nm nh : Nat, ψ 0 3 = Int32.ofNat nv ∧ ψ 0 4 = Int32.ofNat nc ∧ ψ 0 5 = Int32.ofNat nm ∧ ψ 0 6 = Int32.ofNat nh ∧ nv ≤ 6 ∧ nc ≤ 8 ∧ nm ≤ nc ∧ nh ≤ 4 ∧ (∀ v, v < nv → ∃ x, x ≤ 20 ∧ 1 ≤ x ∧ ψ 2 v = Int32.ofNat x) ∧ (∀ c, c < nc → ∃ x, x ≤ 9 ∧ ψ 3 c = Int32.ofNat x) ∧ (∀ m, m < nm → ∃ x, x ≤ 40 ∧ ψ 4 m = Int32.ofNat x) ∧ (∀ h, h < nh → ∃ x, x ≤ 99 ∧ 1 ≤ x ∧ ψ 5 h = Int32.ofNat x)) ∧ (∃ x, x ≤ 20 ∧ ψ 0 1 = Int32.ofNat x) ∧ (∃ x, x ≤ 9999 ∧ ψ 0 0 = Int32.ofNat x) ∧ (∃ x, x ≤ 999 ∧ ψ 0 2 = Int32.ofNat x) ∧ ∀ m, m < 12 → ∃ x, x ≤ 99 ∧ ψ 1 m = Int32.ofNat x
/-- a row that may be -/
def q_ok (ψ : QF) (B : Nat) (r : QR) : Prop := (∃ n, n ≤ B ∧ r 2 = Int32.ofNat n) ∧ (r 5 = 0 ∨ r 5 = 1) ∧ ((r 6 = 0 ∧ r 7 = 0) ∨ (0 < r 6 ∧ ∃ n, n ≤ 7 ∧ 1 ≤ n ∧ r 7 = Int32.ofNat n)) ∧ (∀ m, m < (ψ 0 5).toNatClampNeg → ∃ c, c < (ψ 0 5).toNatClampNeg ∧ r (13 + m) = Int32.ofNat c) ∧ (∃ n, n ≤ 99999 ∧ r 0 = Int32.ofNat n) ∧ ∃ n, n ≤ 9999 ∧ r 1 = Int32.ofNat n
theorem m_less (N : Nat) (x y : Int32) (S : AxS) : F_X10_less N x y S = some (q_min x y, S) := by
  unfold F_X10_less q_min
  by_cases h : y < x
  · rw [if_pos h, if_pos (Int32.le_of_lt h)]
  · rw [if_neg h]
    by_cases h2 : y ≤ x
    · rw [if_pos h2, Int32.le_antisymm h2 (Int32.not_lt.mp h)]
    · rw [if_neg h2]
theorem m_more (N : Nat) (x y : Int32) (S : AxS) : F_X10_more N x y S = some (q_max x y, S) := by
  unfold F_X10_more q_max
  by_cases h : x < y
  · rw [if_pos h, if_pos (Int32.le_of_lt h)]
  · rw [if_neg h]
    by_cases h2 : x ≤ y
    · rw [if_pos h2, Int32.le_antisymm h2 (Int32.not_lt.mp h)]
    · rw [if_neg h2]
theorem m_in (N : Nat) (x y z : Int32) (S : AxS) : F_X10_in N x y z S = some (if y ≤ x ∧ x ≤ z then 1 else 0, S) := by
  unfold F_X10_in
  by_cases h : x < y
  · rw [if_pos h, m_rz0, if_neg (fun q => Int32.not_lt.mpr q.1 h)]
  · rw [if_neg h]
    by_cases h2 : z < x
    · rw [if_pos h2, m_rz0, if_neg (fun q => Int32.not_lt.mpr q.2 h2)]
    · rw [if_neg h2, m_rz1, if_pos ⟨Int32.not_lt.mp h, Int32.not_lt.mp h2⟩]
theorem m_has (N : Nat) (x y : Int32) (S : AxS) : F_X10_has N x y S = some (if q_bit x y = 1 then 1 else 0, S) := by
  unfold F_X10_has q_bit
  split
  · rw [m_rz1]
  · rw [m_rz0]
/-- places of a row -/
theorem q_pl (k : Nat) : k = 0 ∨ k = 1 ∨ k = 2 ∨ k = 3 ∨ k = 4 ∨ k = 5 ∨ k = 6 ∨ k = 7 ∨ k = 8 ∨ k = 9 ∨ k = 10 ∨ k = 11 ∨ k = 12 ∨ 13 ≤ k := by omega
