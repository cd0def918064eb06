/-! LEVEL 2: contents as a fixed part Z and the ints f. What a method does to f, in plain functions. -/
def axM (Z : AxS) (f : Nat → Nat → Int32) : AxS := (Z.1, Z.2.1, f, Z.2.2.2)
theorem axM_self (S : AxS) : axM S (axI S) = S := rfl
theorem axM_L (Z : AxS) (f : Nat → Nat → Int32) (a : Nat) : axL (axM Z f) a = axL Z a := rfl
theorem axM_P (Z : AxS) (f : Nat → Nat → Int32) (a k : Nat) : axP (axM Z f) a k = axP Z a k := rfl
theorem axM_J (Z : AxS) (f : Nat → Nat → Int32) (a k : Nat) : axJ (axM Z f) a k = axJ Z a k := rfl
theorem axM_I (Z : AxS) (f : Nat → Nat → Int32) (a k : Nat) : axI (axM Z f) a k = f a k := rfl
theorem axM_Tx (Z : AxS) (f : Nat → Nat → Int32) (i : Nat) : axTx (axM Z f) i = axTx Z i := rfl
theorem axM_SI (Z : AxS) (f : Nat → Nat → Int32) (a k : Nat) (v : Int32) : axSI (axM Z f) a k v = axM Z (ax2 f a k v) := rfl
theorem axM_SP (Z : AxS) (f : Nat → Nat → Int32) (a k : Nat) (v : Option Nat) : axSP (axM Z f) a k v = axM (axSP Z a k v) f := rfl
theorem axM_SJ (Z : AxS) (f : Nat → Nat → Int32) (a k : Nat) (v : Int64) : axSJ (axM Z f) a k v = axM (axSJ Z a k v) f := rfl
theorem axM_S0 (Z : AxS) (f : Nat → Nat → Int32) : axS0 (axM Z f) = axM (axS0 Z) f := rfl
theorem axB_s {α β : Type} (r : α) (S : AxS) (K : α → AxS → Option β) : axB (some (r, S)) K = K r S := rfl
theorem axBV_s {β : Type} (S : AxS) (K : AxS → Option β) : axBV (some S) K = K S := rfl
theorem axBT_l {α β : Type} (r : α) (S : AxS) (K : α → AxS → Option (AxT β)) : axBT (some (.inl r, S)) K = K r S := rfl
theorem axBT_r {α β : Type} (E : String) (S : AxS) (K : α → AxS → Option (AxT β)) : axBT (some (.inr E, S)) K = some (.inr E, S) := rfl
theorem axBC_l {α β : Type} (r : α) (S : AxS) (K : α → AxS → Option β) (H : String → AxS → Option β) : axBC (some (.inl r, S)) K H = K r S := rfl
theorem axBC_r {α β : Type} (E : String) (S : AxS) (K : α → AxS → Option β) (H : String → AxS → Option β) : axBC (some (.inr E, S)) K H = H E S := rfl
theorem axIt_s {β : Type} (B : β → β) (z : β) (n : Nat) : axIter B z (n + 1) = B (axIter B z n) := rfl
theorem ax2_a {α : Type} (f : Nat → Nat → α) (a k : Nat) (v : α) (j : Nat) : ax2 f a k v a j = if j = k then v else f a j := if_pos rfl
theorem ax2_k {α : Type} (f : Nat → Nat → α) (a k : Nat) (v : α) : ax2 f a k v a k = v := by rw [ax2_a, if_pos rfl]
theorem ax2_n {α : Type} (f : Nat → Nat → α) (a k : Nat) (v : α) {b : Nat} (h : b ≠ a) : ax2 f a k v b = f b := funext fun _ => if_neg h
theorem ax2_j {α : Type} (f : Nat → Nat → α) (a k : Nat) (v : α) (b : Nat) {j : Nat} (h : j ≠ k) : ax2 f a k v b j = f b j := by
  unfold ax2
  by_cases e : b = a
  · rw [if_pos e, if_neg h]
  · rw [if_neg e]
section QM
variable {α : Type} {Z : AxS} {f : Nat → Nat → Int32} {a b ci k len t : Nat} {i v : Int32}
theorem m_is {K : Option α} (h : axL Z a = some (0, ci)) : ax_is (axM Z f) a ci K = K := if_pos h
theorem m_gi {K : Int32 → Option α} (h : axL Z a = some (0, ci)) : ax_gi (axM Z f) a ci k K = K (f a k) := if_pos h
theorem m_gr {K : Nat → Option α} (h : axL Z a = some (0, ci)) (h2 : axP Z a k = some b) : ax_gr (axM Z f) a ci k K = K b := by
  unfold ax_gr
  rw [axM_L, if_pos h, axM_P, h2]
theorem m_pi {K : AxS → Option α} (h : axL Z a = some (0, ci)) : ax_pi (axM Z f) a ci k v K = K (axM Z (ax2 f a k v)) := if_pos h
theorem m_pr {K : AxS → Option α} (h : axL Z a = some (0, ci)) : ax_pr (axM Z f) a ci k b K = K (axM (axSP Z a k (some b)) f) := if_pos h
theorem m_ld {K : Int32 → Option α} (h : axL Z a = some (1, len)) (hi : ¬ (i < 0)) (hk : i.toNatClampNeg = k) (hl : k < len) : ax_ld (axM Z f) a i K = K (f a k) := by
  unfold ax_ld
  rw [axM_L, h]
  subst hk
  show (if i < 0 ∨ len ≤ i.toNatClampNeg then none else K (axI (axM Z f) a i.toNatClampNeg)) = _
  rw [if_neg (fun q => q.elim hi (fun q => by omega))]
  rfl
theorem m_st {K : AxS → Option α} (h : axL Z a = some (1, len)) (hi : ¬ (i < 0)) (hk : i.toNatClampNeg = k) (hl : k < len) : ax_st (axM Z f) a i v K = K (axM Z (ax2 f a k v)) := by
  unfold ax_st
  rw [axM_L, h]
  subst hk
  show (if i < 0 ∨ len ≤ i.toNatClampNeg then none else K (axSI (axM Z f) a i.toNatClampNeg v)) = _
  rw [if_neg (fun q => q.elim hi (fun q => by omega))]
  rfl
theorem m_ldr {K : Nat → Option α} (h : axL Z a = some (t + 3, len)) (ht : t < 3) (hi : ¬ (i < 0)) (hk : i.toNatClampNeg = k) (hl : k < len) (hp : axP Z a k = some b) : ax_ldr (axM Z f) a i K = K b := by
  unfold ax_ldr
  rw [axM_L, h]
  subst hk
  show (if i < 0 ∨ len ≤ i.toNatClampNeg ∨ 5 < t + 3 then none else (match axP (axM Z f) a i.toNatClampNeg with | some b => K b | none => none)) = _
  rw [if_neg (fun q => q.elim hi (fun q => q.elim (fun q => by omega) (fun q => by omega))), axM_P, hp]
theorem m_len {K : Int32 → Option α} (h : axL Z a = some (t + 1, len)) (ht : t < 5) : ax_len (axM Z f) a K = K (Int32.ofNat len) := by
  unfold ax_len
  rw [axM_L, h]
  show (if 5 < t + 1 then none else K (Int32.ofNat len)) = _
  rw [if_neg (by omega)]
theorem m_ldl {K : Int64 → Option α} (h : axL Z a = some (2, len)) (hi : ¬ (i < 0)) (hk : i.toNatClampNeg = k) (hl : k < len) : ax_ldl (axM Z f) a i K = K (axJ Z a k) := by
  unfold ax_ldl
  rw [axM_L, h]
  subst hk
  show (if i < 0 ∨ len ≤ i.toNatClampNeg then none else K (axJ (axM Z f) a i.toNatClampNeg)) = _
  rw [if_neg (fun q => q.elim hi (fun q => by omega))]
  rfl
theorem m_stl {K : AxS → Option α} {w : Int64} (h : axL Z a = some (2, len)) (hi : ¬ (i < 0)) (hk : i.toNatClampNeg = k) (hl : k < len) : ax_stl (axM Z f) a i w K = K (axM (axSJ Z a k w) f) := by
  unfold ax_stl
  rw [axM_L, h]
  subst hk
  show (if i < 0 ∨ len ≤ i.toNatClampNeg then none else K (axSJ (axM Z f) a i.toNatClampNeg w)) = _
  rw [if_neg (fun q => q.elim hi (fun q => by omega))]
  rfl
end QM
-- small numbers
theorem qi_i {j : Nat} (h : j < 2147483648) : (Int32.ofNat j).toInt = (j : Int) := Int32.toInt_ofNat_of_lt h
theorem qi_nn {j : Nat} (h : j < 2147483648) : ¬ (Int32.ofNat j < 0) := by
  rw [Int32.lt_iff_toInt_lt, qi_i h]
  show ¬ ((j : Int) < 0)
  omega
theorem qi_tn {j : Nat} (h : j < 2147483648) : (Int32.ofNat j).toNatClampNeg = j := by
  show (Int32.ofNat j).toInt.toNat = j
  rw [qi_i h]
  rfl
theorem qi_le {i j : Nat} (hi : i < 2147483648) (hj : j < 2147483648) : (Int32.ofNat i ≤ Int32.ofNat j) = (i ≤ j) := by
  rw [Int32.le_iff_toInt_le, qi_i hi, qi_i hj]
  exact propext ⟨fun h => by omega, fun h => by omega⟩
theorem qi_lt {i j : Nat} (hi : i < 2147483648) (hj : j < 2147483648) : (Int32.ofNat i < Int32.ofNat j) = (i < j) := by
  rw [Int32.lt_iff_toInt_lt, qi_i hi, qi_i hj]
  exact propext ⟨fun h => by omega, fun h => by omega⟩
theorem qi_eq {i j : Nat} (hi : i < 2147483648) (hj : j < 2147483648) : (Int32.ofNat i = Int32.ofNat j) = (i = j) := by
  refine propext ⟨fun h => ?_, fun h => by rw [h]⟩
  have h9 := congrArg Int32.toInt h
  rw [qi_i hi, qi_i hj] at h9
  omega
theorem qi_ge {i j : Nat} (h : i ≤ j) (hj : j < 2147483648) : Int32.ofNat i ≤ Int32.ofNat j := by
  rw [qi_le (by omega) hj]
  exact h
theorem qi_nge {i j : Nat} (h : j < i) (hi : i < 2147483648) : ¬ Int32.ofNat i ≤ Int32.ofNat j := by
  rw [qi_le hi (by omega)]
  omega
theorem qi_gt {i j : Nat} (h : i < j) (hj : j < 2147483648) : Int32.ofNat i < Int32.ofNat j := by
  rw [qi_lt (by omega) hj]
  exact h
theorem qi_ngt {i j : Nat} (h : j ≤ i) (hi : i < 2147483648) : ¬ Int32.ofNat i < Int32.ofNat j := by
  rw [qi_lt hi (by omega)]
  omega
theorem qi_ne {i j : Nat} (h : i ≠ j) (hi : i < 2147483648) (hj : j < 2147483648) : ¬ Int32.ofNat i = Int32.ofNat j := by
  rw [qi_eq hi hj]
  exact h
theorem qi_add (i j : Nat) : Int32.ofNat i + Int32.ofNat j = Int32.ofNat (i + j) := (Int32.ofNat_add i j).symm
theorem qi_s (j : Nat) : Int32.ofNat j + 1 = Int32.ofNat (j + 1) := (Int32.ofNat_add j 1).symm
theorem qi_0 : (0 : Int32) = Int32.ofNat 0 := rfl
/-- any number that isn't below 0 is of that form -/
theorem qi_of {x : Int32} (h : ¬ (x < 0)) : x = Int32.ofNat x.toNatClampNeg ∧ x.toNatClampNeg < 2147483648 := by
  have h0 : ¬ (x.toInt < 0) := fun q => h (by rw [Int32.lt_iff_toInt_lt]; exact q)
  have h1 := Int32.toInt_lt x
  have h2 : x.toNatClampNeg < 2147483648 := by
    show x.toInt.toNat < 2147483648
    omega
  refine ⟨?_, h2⟩
  rw [← Int32.toInt_inj, qi_i h2]
  show x.toInt = ((x.toInt.toNat : Nat) : Int)
  omega
section QM2
variable {α : Type} {Z : AxS} {f : Nat → Nat → Int32} {a b ci k len t j : Nat} {i v : Int32}
theorem m_ldn {K : Int32 → Option α} (h : axL Z a = some (1, len)) (hl : j < len) (h2 : len < 2147483648) : ax_ld (axM Z f) a (Int32.ofNat j) K = K (f a j) := m_ld h (qi_nn (by omega)) (qi_tn (by omega)) hl
theorem m_stn {K : AxS → Option α} (h : axL Z a = some (1, len)) (hl : j < len) (h2 : len < 2147483648) : ax_st (axM Z f) a (Int32.ofNat j) v K = K (axM Z (ax2 f a j v)) := m_st h (qi_nn (by omega)) (qi_tn (by omega)) hl
theorem m_ldrn {K : Nat → Option α} (h : axL Z a = some (t + 3, len)) (ht : t < 3) (hl : j < len) (h2 : len < 2147483648) (hp : axP Z a j = some b) : ax_ldr (axM Z f) a (Int32.ofNat j) K = K b := m_ldr h ht (qi_nn (by omega)) (qi_tn (by omega)) hl hp
/-- a row's entry, 0 where there is none -/
def q_at (f : Nat → Nat → Int32) (a len : Nat) (i : Int32) : Int32 := if i < 0 then 0 else if len ≤ i.toNatClampNeg then 0 else f a i.toNatClampNeg
theorem q_atn (f : Nat → Nat → Int32) (a : Nat) (hl : j < len) (h2 : len < 2147483648) : q_at f a len (Int32.ofNat j) = f a j := by
  unfold q_at
  rw [if_neg (qi_nn (by omega)), qi_tn (by omega), if_neg (by omega)]
theorem m_at (N : Nat) (h : axL Z a = some (1, len)) (h2 : len < 2147483648) : F_X9_at N a i (axM Z f) = some (q_at f a len i, axM Z f) := by
  unfold F_X9_at q_at
  by_cases h0 : i < 0
  · rw [if_pos h0, if_pos h0]
  · rw [if_neg h0, if_neg h0, m_len (t := 0) h (by omega)]
    obtain ⟨e, hb⟩ := qi_of h0
    by_cases h1 : len ≤ i.toNatClampNeg
    · rw [if_pos h1, if_pos (by rw [e, qi_le h2 hb]; exact h1)]
    · rw [if_neg h1, if_neg (by rw [e, qi_le h2 hb]; exact h1), m_ld h h0 rfl (by omega)]
theorem m_atn (N : Nat) (h : axL Z a = some (1, len)) (hl : j < len) (h2 : len < 2147483648) : F_X9_at N a (Int32.ofNat j) (axM Z f) = some (f a j, axM Z f) := by rw [m_at N h h2, q_atn f a hl h2]
def q_put (f : Nat → Nat → Int32) (a len : Nat) (i v : Int32) : Nat → Nat → Int32 := if i < 0 then f else if len ≤ i.toNatClampNeg then f else ax2 f a i.toNatClampNeg v
theorem q_putn (f : Nat → Nat → Int32) (a : Nat) (v : Int32) (hl : j < len) (h2 : len < 2147483648) : q_put f a len (Int32.ofNat j) v = ax2 f a j v := by
  unfold q_put
  rw [if_neg (qi_nn (by omega)), qi_tn (by omega), if_neg (by omega)]
theorem m_put (N : Nat) (h : axL Z a = some (1, len)) (h2 : len < 2147483648) : F_X9_put N a i v (axM Z f) = some (axM Z (q_put f a len i v)) := by
  unfold F_X9_put q_put
  by_cases h0 : i < 0
  · rw [if_pos h0, if_pos h0]
  · rw [if_neg h0, if_neg h0, m_len (t := 0) h (by omega)]
    obtain ⟨e, hb⟩ := qi_of h0
    by_cases h1 : len ≤ i.toNatClampNeg
    · rw [if_pos h1, if_pos (by rw [e, qi_le h2 hb]; exact h1)]
    · rw [if_neg h1, if_neg (by rw [e, qi_le h2 hb]; exact h1), m_st h h0 rfl (by omega)]
theorem m_putn (N : Nat) (h : axL Z a = some (1, len)) (hl : j < len) (h2 : len < 2147483648) : F_X9_put N a (Int32.ofNat j) v (axM Z f) = some (axM Z (ax2 f a j v)) := by rw [m_put N h h2, q_putn f a v hl h2]
theorem q_put_n {f : Nat → Nat → Int32} {x : Nat} (h : x ≠ a) : q_put f a len i v x = f x := by
  unfold q_put
  split
  · rfl
  · split
    · rfl
    · exact ax2_n f a _ v h
end QM2
/-- the less, the more -/
def q_min (x y : Int32) : Int32 := if y < x then y else x
def q_max (x y : Int32) : Int32 := if x < y then y else x
theorem m_min (N : Nat) (x y : Int32) (S : AxS) : F_J9_min_7cf53 N x y S = some (q_min x y, S) := by
  unfold F_J9_min_7cf53 q_min
  split <;> rfl
theorem m_max (N : Nat) (x y : Int32) (S : AxS) : F_J9_max_7cf53 N x y S = some (q_max x y, S) := by
  unfold F_J9_max_7cf53 q_max
  split <;> rfl
theorem m_rz0 {α : Type} (K : Option α) : ax_rz 0 K = K := if_pos (Or.inl rfl)
theorem m_rz1 {α : Type} (K : Option α) : ax_rz 1 K = K := if_pos (Or.inr rfl)
theorem m_rz {α : Type} {v : Int32} {K : Option α} (h : v = 0 ∨ v = 1) : ax_rz v K = K := if_pos h
theorem m_ne {α : Type} {v : Int32} {K : Option α} (h : v ≠ 0) : ax_ne v K = K := if_neg h
theorem m_nel {α : Type} {v : Int64} {K : Option α} (h : v ≠ 0) : ax_nel v K = K := if_neg h
