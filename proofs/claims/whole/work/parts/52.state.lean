/-! the class's State -/
def LSt (Z : AxS) (a : Nat) : Prop := axL Z a = some (0, 5) ∧ axP Z a 12 = some (a + 1) ∧ axP Z a 13 = some (a + 2) ∧ axL Z (a + 1) = some (1, 8) ∧ axL Z (a + 2) = some (1, 8)
def rdSt (f : Nat → Nat → Int32) (a : Nat) : QR := fun k => match k with
  | 0 => f a 0
  | 1 => f a 1
  | 2 => f a 2
  | 3 => f a 3
  | 4 => f a 4
  | 5 => f a 5
  | 6 => f a 6
  | 7 => f a 7
  | 8 => f a 8
  | 9 => f a 10
  | 10 => f a 11
  | 11 => f a 9
  | 12 => 0
  | k + 13 => if k < 8 then f (a + 1) k else if k < 16 then f (a + 2) (k - 8) else 0
theorem rdSt_c {f g : Nat → Nat → Int32} {a b : Nat} (h0 : ∀ k, k < 12 → f a k = g b k) (h1 : ∀ k, k < 8 → f (a + 1) k = g (b + 1) k) (h2 : ∀ k, k < 8 → f (a + 2) k = g (b + 2) k) : rdSt f a = rdSt g b := by
  funext k
  rcases q_pl k with rfl | rfl | rfl | rfl | rfl | rfl | rfl | rfl | rfl | rfl | rfl | rfl | rfl | h
  · exact h0 0 (by omega)
  · exact h0 1 (by omega)
  · exact h0 2 (by omega)
  · exact h0 3 (by omega)
  · exact h0 4 (by omega)
  · exact h0 5 (by omega)
  · exact h0 6 (by omega)
  · exact h0 7 (by omega)
  · exact h0 8 (by omega)
  · exact h0 10 (by omega)
  · exact h0 11 (by omega)
  · exact h0 9 (by omega)
  · rfl
  · obtain ⟨j, rfl⟩ : ∃ j, k = j + 13 := ⟨k - 13, by omega⟩
    show (if j < 8 then f (a + 1) j else if j < 16 then f (a + 2) (j - 8) else 0) = (if j < 8 then g (b + 1) j else if j < 16 then g (b + 2) (j - 8) else 0)
    by_cases g1 : j < 8
    · rw [if_pos g1, if_pos g1, h1 j g1]
    · rw [if_neg g1, if_neg g1]
      by_cases g2 : j < 16
      · rw [if_pos g2, if_pos g2, h2 (j - 8) (by omega)]
      · rw [if_neg g2, if_neg g2]
theorem rdSt_e {f g : Nat → Nat → Int32} {a : Nat} (h0 : f a = g a) (h1 : f (a + 1) = g (a + 1)) (h2 : f (a + 2) = g (a + 2)) : rdSt f a = rdSt g a := rdSt_c (fun k _ => by rw [h0]) (fun k _ => by rw [h1]) (fun k _ => by rw [h2])
/-- a row is what its places are -/
theorem rdSt_x {f : Nat → Nat → Int32} {a : Nat} {r : QR} (h : f a 0 = r 0 ∧ f a 1 = r 1 ∧ f a 2 = r 2 ∧ f a 3 = r 3 ∧ f a 4 = r 4 ∧ f a 5 = r 5 ∧ f a 6 = r 6 ∧ f a 7 = r 7 ∧ f a 8 = r 8 ∧ f a 10 = r 9 ∧ f a 11 = r 10 ∧ f a 9 = r 11 ∧ r 12 = 0) (h1 : ∀ k, k < 8 → f (a + 1) k = r (13 + k)) (h2 : ∀ k, k < 8 → f (a + 2) k = r (21 + k)) (h3 : ∀ k, 29 ≤ k → r k = 0) : rdSt f a = r := by
  obtain ⟨e0, e1, e2, e3, e4, e5, e6, e7, e8, e9, e10, e11, e12⟩ := h
  funext k
  rcases q_pl k with rfl | rfl | rfl | rfl | rfl | rfl | rfl | rfl | rfl | rfl | rfl | rfl | rfl | h
  · exact e0
  · exact e1
  · exact e2
  · exact e3
  · exact e4
  · exact e5
  · exact e6
  · exact e7
  · exact e8
  · exact e9
  · exact e10
  · exact e11
  · exact e12.symm
  · obtain ⟨j, rfl⟩ : ∃ j, k = j + 13 := ⟨k - 13, by omega⟩
    show (if j < 8 then f (a + 1) j else if j < 16 then f (a + 2) (j - 8) else 0) = r (j + 13)
    by_cases g1 : j < 8
    · rw [if_pos g1, h1 j g1, Nat.add_comm]
    · rw [if_neg g1]
      by_cases g2 : j < 16
      · rw [if_pos g2, h2 (j - 8) (by omega)]
        congr 1
        omega
      · rw [if_neg g2, h3 _ (by omega)]
theorem rdSt_b (f : Nat → Nat → Int32) (a : Nat) {k : Nat} (h : k < 8) : rdSt f a (13 + k) = f (a + 1) k := by
  rw [Nat.add_comm]
  show (if k < 8 then f (a + 1) k else _) = _
  rw [if_pos h]
theorem rdSt_w (f : Nat → Nat → Int32) (a : Nat) {k : Nat} (h : k < 8) : rdSt f a (21 + k) = f (a + 2) k := by
  rw [show 21 + k = (k + 8) + 13 by omega]
  show (if k + 8 < 8 then f (a + 1) (k + 8) else if k + 8 < 16 then f (a + 2) (k + 8 - 8) else 0) = _
  rw [if_neg (by omega), if_pos (by omega), show k + 8 - 8 = k by omega]
theorem rdSt_z (f : Nat → Nat → Int32) (a : Nat) {k : Nat} (h : 29 ≤ k) : rdSt f a k = 0 := by
  obtain ⟨j, rfl⟩ : ∃ j, k = j + 13 := ⟨k - 13, by omega⟩
  show (if j < 8 then f (a + 1) j else if j < 16 then f (a + 2) (j - 8) else 0) = 0
  rw [if_neg (by omega), if_neg (by omega)]
/-- only scalars have changed -/
theorem rdSt_s {f f' : Nat → Nat → Int32} {a : Nat} {r : QR} (e1 : f' (a + 1) = f (a + 1)) (e2 : f' (a + 2) = f (a + 2)) (h : f' a 0 = r 0 ∧ f' a 1 = r 1 ∧ f' a 2 = r 2 ∧ f' a 3 = r 3 ∧ f' a 4 = r 4 ∧ f' a 5 = r 5 ∧ f' a 6 = r 6 ∧ f' a 7 = r 7 ∧ f' a 8 = r 8 ∧ f' a 10 = r 9 ∧ f' a 11 = r 10 ∧ f' a 9 = r 11 ∧ r 12 = 0) (ht : ∀ k, 13 ≤ k → r k = rdSt f a k) : rdSt f' a = r := by
  refine rdSt_x h (fun k hk => ?_) (fun k hk => ?_) (fun k hk => ?_)
  · rw [ht _ (by omega), rdSt_b _ _ hk, e1]
  · rw [ht _ (by omega), rdSt_w _ _ hk, e2]
  · rw [ht _ (by omega), rdSt_z _ _ hk]
theorem rdSt_w0 (f : Nat → Nat → Int32) (a : Nat) (v : Int32) : rdSt (ax2 f a 0 v) a = q_set (rdSt f a) 0 v := rdSt_s (f := f) (ax2_n _ _ _ _ (by omega)) (ax2_n _ _ _ _ (by omega)) (by simp [ax2_a, q_set, rdSt]) (fun k hk => q_set_n _ _ (by omega))
theorem rdSt_r0 (f : Nat → Nat → Int32) (a : Nat) : f a 0 = rdSt f a 0 := rfl
theorem rdSt_w1 (f : Nat → Nat → Int32) (a : Nat) (v : Int32) : rdSt (ax2 f a 1 v) a = q_set (rdSt f a) 1 v := rdSt_s (f := f) (ax2_n _ _ _ _ (by omega)) (ax2_n _ _ _ _ (by omega)) (by simp [ax2_a, q_set, rdSt]) (fun k hk => q_set_n _ _ (by omega))
theorem rdSt_r1 (f : Nat → Nat → Int32) (a : Nat) : f a 1 = rdSt f a 1 := rfl
theorem rdSt_w2 (f : Nat → Nat → Int32) (a : Nat) (v : Int32) : rdSt (ax2 f a 2 v) a = q_set (rdSt f a) 2 v := rdSt_s (f := f) (ax2_n _ _ _ _ (by omega)) (ax2_n _ _ _ _ (by omega)) (by simp [ax2_a, q_set, rdSt]) (fun k hk => q_set_n _ _ (by omega))
theorem rdSt_r2 (f : Nat → Nat → Int32) (a : Nat) : f a 2 = rdSt f a 2 := rfl
theorem rdSt_w3 (f : Nat → Nat → Int32) (a : Nat) (v : Int32) : rdSt (ax2 f a 3 v) a = q_set (rdSt f a) 3 v := rdSt_s (f := f) (ax2_n _ _ _ _ (by omega)) (ax2_n _ _ _ _ (by omega)) (by simp [ax2_a, q_set, rdSt]) (fun k hk => q_set_n _ _ (by omega))
theorem rdSt_r3 (f : Nat → Nat → Int32) (a : Nat) : f a 3 = rdSt f a 3 := rfl
theorem rdSt_w4 (f : Nat → Nat → Int32) (a : Nat) (v : Int32) : rdSt (ax2 f a 4 v) a = q_set (rdSt f a) 4 v := rdSt_s (f := f) (ax2_n _ _ _ _ (by omega)) (ax2_n _ _ _ _ (by omega)) (by simp [ax2_a, q_set, rdSt]) (fun k hk => q_set_n _ _ (by omega))
theorem rdSt_r4 (f : Nat → Nat → Int32) (a : Nat) : f a 4 = rdSt f a 4 := rfl
theorem rdSt_w5 (f : Nat → Nat → Int32) (a : Nat) (v : Int32) : rdSt (ax2 f a 5 v) a = q_set (rdSt f a) 5 v := rdSt_s (f := f) (ax2_n _ _ _ _ (by omega)) (ax2_n _ _ _ _ (by omega)) (by simp [ax2_a, q_set, rdSt]) (fun k hk => q_set_n _ _ (by omega))
theorem rdSt_r5 (f : Nat → Nat → Int32) (a : Nat) : f a 5 = rdSt f a 5 := rfl
theorem rdSt_w6 (f : Nat → Nat → Int32) (a : Nat) (v : Int32) : rdSt (ax2 f a 6 v) a = q_set (rdSt f a) 6 v := rdSt_s (f := f) (ax2_n _ _ _ _ (by omega)) (ax2_n _ _ _ _ (by omega)) (by simp [ax2_a, q_set, rdSt]) (fun k hk => q_set_n _ _ (by omega))
theorem rdSt_r6 (f : Nat → Nat → Int32) (a : Nat) : f a 6 = rdSt f a 6 := rfl
theorem rdSt_w7 (f : Nat → Nat → Int32) (a : Nat) (v : Int32) : rdSt (ax2 f a 7 v) a = q_set (rdSt f a) 7 v := rdSt_s (f := f) (ax2_n _ _ _ _ (by omega)) (ax2_n _ _ _ _ (by omega)) (by simp [ax2_a, q_set, rdSt]) (fun k hk => q_set_n _ _ (by omega))
theorem rdSt_r7 (f : Nat → Nat → Int32) (a : Nat) : f a 7 = rdSt f a 7 := rfl
theorem rdSt_w8 (f : Nat → Nat → Int32) (a : Nat) (v : Int32) : rdSt (ax2 f a 8 v) a = q_set (rdSt f a) 8 v := rdSt_s (f := f) (ax2_n _ _ _ _ (by omega)) (ax2_n _ _ _ _ (by omega)) (by simp [ax2_a, q_set, rdSt]) (fun k hk => q_set_n _ _ (by omega))
theorem rdSt_r8 (f : Nat → Nat → Int32) (a : Nat) : f a 8 = rdSt f a 8 := rfl
theorem rdSt_w9 (f : Nat → Nat → Int32) (a : Nat) (v : Int32) : rdSt (ax2 f a 9 v) a = q_set (rdSt f a) 11 v := rdSt_s (f := f) (ax2_n _ _ _ _ (by omega)) (ax2_n _ _ _ _ (by omega)) (by simp [ax2_a, q_set, rdSt]) (fun k hk => q_set_n _ _ (by omega))
theorem rdSt_r9 (f : Nat → Nat → Int32) (a : Nat) : f a 9 = rdSt f a 11 := rfl
theorem rdSt_w10 (f : Nat → Nat → Int32) (a : Nat) (v : Int32) : rdSt (ax2 f a 10 v) a = q_set (rdSt f a) 9 v := rdSt_s (f := f) (ax2_n _ _ _ _ (by omega)) (ax2_n _ _ _ _ (by omega)) (by simp [ax2_a, q_set, rdSt]) (fun k hk => q_set_n _ _ (by omega))
theorem rdSt_r10 (f : Nat → Nat → Int32) (a : Nat) : f a 10 = rdSt f a 9 := rfl
theorem rdSt_w11 (f : Nat → Nat → Int32) (a : Nat) (v : Int32) : rdSt (ax2 f a 11 v) a = q_set (rdSt f a) 10 v := rdSt_s (f := f) (ax2_n _ _ _ _ (by omega)) (ax2_n _ _ _ _ (by omega)) (by simp [ax2_a, q_set, rdSt]) (fun k hk => q_set_n _ _ (by omega))
theorem rdSt_r11 (f : Nat → Nat → Int32) (a : Nat) : f a 11 = rdSt f a 10 := rfl
theorem rdSt_wb (f : Nat → Nat → Int32) (a : Nat) (v : Int32) {k : Nat} (hk : k < 8) : rdSt (ax2 f (a + 1) k v) a = q_set (rdSt f a) (13 + k) v := by
  refine rdSt_x ?_ (fun j hj => ?_) (fun j hj => ?_) (fun j hj => ?_)
  · rw [ax2_n _ _ _ _ (show a ≠ a + 1 by omega)]
    refine ⟨?_, ?_, ?_, ?_, ?_, ?_, ?_, ?_, ?_, ?_, ?_, ?_, ?_⟩ <;> rw [q_set_n _ _ (by omega)] <;> rfl
  · rw [ax2_a]
    unfold q_set
    by_cases e : j = k
    · rw [if_pos e, if_pos (by omega)]
    · rw [if_neg e, if_neg (by omega), rdSt_b _ _ hj]
  · rw [ax2_n _ _ _ _ (show a + 2 ≠ a + 1 by omega), q_set_n _ _ (by omega), rdSt_w _ _ hj]
  · rw [q_set_n _ _ (by omega), rdSt_z _ _ hj]
theorem rdSt_ww (f : Nat → Nat → Int32) (a : Nat) (v : Int32) {k : Nat} (hk : k < 8) : rdSt (ax2 f (a + 2) k v) a = q_set (rdSt f a) (21 + k) v := by
  refine rdSt_x ?_ (fun j hj => ?_) (fun j hj => ?_) (fun j hj => ?_)
  · rw [ax2_n _ _ _ _ (show a ≠ a + 2 by omega)]
    refine ⟨?_, ?_, ?_, ?_, ?_, ?_, ?_, ?_, ?_, ?_, ?_, ?_, ?_⟩ <;> rw [q_set_n _ _ (by omega)] <;> rfl
  · rw [ax2_n _ _ _ _ (show a + 1 ≠ a + 2 by omega), q_set_n _ _ (by omega), rdSt_b _ _ hj]
  · rw [ax2_a]
    unfold q_set
    by_cases e : j = k
    · rw [if_pos e, if_pos (by omega)]
    · rw [if_neg e, if_neg (by omega), rdSt_w _ _ hj]
  · rw [q_set_n _ _ (by omega), rdSt_z _ _ hj]
theorem rdSt_n (f : Nat → Nat → Int32) {a b k : Nat} (v : Int32) (h : b ≠ a ∧ b ≠ a + 1 ∧ b ≠ a + 2) : rdSt (ax2 f b k v) a = rdSt f a := rdSt_e (ax2_n _ _ _ _ (Ne.symm h.1)) (ax2_n _ _ _ _ (Ne.symm h.2.1)) (ax2_n _ _ _ _ (Ne.symm h.2.2))
theorem q_set_c (r : QR) (k : Nat) {v : Int32} (h : r k = v) : q_set r k v = r := by
  funext j
  unfold q_set
  split
  · rename_i e
    rw [e, h]
  · rfl
section
variable {Z : AxS} {f : Nat → Nat → Int32} {a o : Nat}
theorem qc_pays (N : Nat) (n : Int32) (h : LSt Z a) : ∃ f', F_X5_pays N a n (axM Z f) = some (if q_can (rdSt f a) n = true then 1 else 0, axM Z f') ∧ rdSt f' a = q_pay n (rdSt f a) ∧ ∀ x, x ≠ a → f' x = f x := by
  obtain ⟨h1, -⟩ := h
  unfold F_X5_pays
  simp only [m_gi h1, m_pi h1, m_rz0, m_rz1, q_can, q_pay, Bool.and_eq_true, decide_eq_true_eq]
  by_cases c1 : f a 1 < n
  · have c3 : ¬ (n ≤ rdSt f a 1 ∧ n ≤ rdSt f a 0) := fun q => Int32.not_lt.mpr q.1 c1
    rw [if_pos c1]
    exact ⟨f, by rw [if_neg c3], by rw [if_neg c3], fun x hx => rfl⟩
  · rw [if_neg c1]
    by_cases c2 : n ≤ f a 0
    · have c3 : n ≤ rdSt f a 1 ∧ n ≤ rdSt f a 0 := ⟨Int32.not_lt.mp c1, c2⟩
      rw [if_pos c2]
      refine ⟨_, by rw [if_pos c3], ?_, fun x hx => by simp only [ax2_n _ _ _ _ hx]⟩
      rw [if_pos c3]
      simp [rdSt_w0, rdSt_w1, rdSt_w2, rdSt_w3, rdSt_w4, rdSt_w5, rdSt_w6, rdSt_w7, rdSt_w8, rdSt_w9, rdSt_w10, rdSt_w11, ax2_a]
      rfl
    · have c3 : ¬ (n ≤ rdSt f a 1 ∧ n ≤ rdSt f a 0) := fun q => c2 q.2
      rw [if_neg c2]
      exact ⟨f, by rw [if_neg c3], by rw [if_neg c3], fun x hx => rfl⟩
theorem qc_gives (N : Nat) (v n : Int32) (h : LSt Z a) : ∃ f', F_X5_gives N a v n (axM Z f) = some (if q_bit (rdSt f a 11) v = 1 then 0 else 1, axM Z f') ∧ rdSt f' a = q_give v n (rdSt f a) ∧ ∀ x, x ≠ a → f' x = f x := by
  obtain ⟨h1, -⟩ := h
  unfold F_X5_gives
  simp only [m_gi h1, m_pi h1, m_rz0, m_rz1, m_min, axB_s, q_give]
  by_cases c1 : q_bit (f a 9) v = 1
  · have c3 : q_bit (rdSt f a 11) v = 1 := c1
    rw [if_pos (show (f a 9 >>> (v &&& 31)) &&& 1 = 1 from c1)]
    exact ⟨f, by rw [if_pos c3], by rw [if_pos c3], fun x hx => rfl⟩
  · have c3 : ¬ q_bit (rdSt f a 11) v = 1 := c1
    rw [if_neg (show ¬ (f a 9 >>> (v &&& 31)) &&& 1 = 1 from c1)]
    refine ⟨_, by rw [if_neg c3], ?_, fun x hx => by simp only [ax2_n _ _ _ _ hx]⟩
    rw [if_neg c3]
    simp [rdSt_w0, rdSt_w1, rdSt_w2, rdSt_w3, rdSt_w4, rdSt_w5, rdSt_w6, rdSt_w7, rdSt_w8, rdSt_w9, rdSt_w10, rdSt_w11, ax2_a]
    rfl
theorem qc_waxes (N : Nat) (h : LSt Z a) : ∃ f', F_X5_waxes N a (axM Z f) = some (if rdSt f a 5 = 1 then 0 else 1, axM Z f') ∧ rdSt f' a = q_set (rdSt f a) 5 1 ∧ ∀ x, x ≠ a → f' x = f x := by
  obtain ⟨h1, -⟩ := h
  unfold F_X5_waxes
  simp only [m_gi h1, m_pi h1, m_rz0, m_rz1]
  by_cases c1 : f a 5 = 1
  · have c3 : rdSt f a 5 = 1 := c1
    rw [if_pos c1]
    exact ⟨f, by rw [if_pos c3], (q_set_c _ _ c3).symm, fun x hx => rfl⟩
  · have c3 : ¬ rdSt f a 5 = 1 := c1
    rw [if_neg c1]
    exact ⟨_, by rw [if_neg c3], by rw [rdSt_w5], fun x hx => by simp only [ax2_n _ _ _ _ hx]⟩
theorem qc_hangUp (N : Nat) (n : Int32) (h : LSt Z a) : ∃ f', F_X5_hangUp N a n (axM Z f) = some (if rdSt f a 6 ≤ 0 then 1 else 0, axM Z f') ∧ rdSt f' a = (if rdSt f a 6 ≤ 0 then q_set (q_set (rdSt f a) 6 n) 7 7 else rdSt f a) ∧ ∀ x, x ≠ a → f' x = f x := by
  obtain ⟨h1, -⟩ := h
  unfold F_X5_hangUp
  simp only [m_gi h1, m_pi h1, m_rz0, m_rz1]
  by_cases c1 : f a 6 ≤ 0
  · have c3 : rdSt f a 6 ≤ 0 := c1
    rw [if_pos c1]
    exact ⟨_, by rw [if_pos c3], by rw [if_pos c3, rdSt_w7, rdSt_w6], fun x hx => by simp only [ax2_n _ _ _ _ hx]⟩
  · have c3 : ¬ rdSt f a 6 ≤ 0 := c1
    rw [if_neg c1]
    exact ⟨f, by rw [if_neg c3], by rw [if_neg c3], fun x hx => rfl⟩
def q_swap (i j : Nat) (r : QR) : QR := q_set (q_set r (13 + i) (r (13 + j))) (13 + j) (r (13 + i))
theorem q_swap_i (i : Nat) (r : QR) : q_swap i i r = r := by
  unfold q_swap
  rw [q_set_c r _ rfl, q_set_c r _ rfl]
theorem qc_swaps (N : Nat) {i j : Nat} (hi : i < 8) (hj : j < 8) (h : LSt Z a) : ∃ f', F_X5_swaps N a (Int32.ofNat i) (Int32.ofNat j) (axM Z f) = some (if i = j then 0 else 1, axM Z f') ∧ rdSt f' a = q_swap i j (rdSt f a) ∧ ∀ x, x ≠ a + 1 → f' x = f x := by
  obtain ⟨h1, h2, h3, h4, h5⟩ := h
  unfold F_X5_swaps
  by_cases e : i = j
  · subst e
    rw [if_pos rfl, if_pos rfl, m_rz0]
    exact ⟨f, rfl, (q_swap_i _ _).symm, fun x hx => rfl⟩
  · rw [if_neg (qi_ne e (by omega) (by omega)), if_neg e]
    simp only [m_gr h1 h2, m_atn N h4 hi (by omega), m_atn N h4 hj (by omega), m_putn N h4 hi (by omega), m_putn N h4 hj (by omega), axB_s, axBV_s, m_rz1]
    refine ⟨_, rfl, ?_, fun x hx => by simp only [ax2_n _ _ _ _ hx]⟩
    rw [rdSt_wb _ _ _ hj, rdSt_wb _ _ _ hi]
    unfold q_swap
    rw [rdSt_b _ _ hi, rdSt_b _ _ hj]
theorem qc_take_l (N : Nat) (ha : LSt Z a) (ho : LSt Z o) (hd : a + 2 < o ∨ o + 2 < a) : ∀ (n j fu : Nat) (f : Nat → Nat → Int32), j + n = 8 → n < fu → ∃ f', F_X5_take_98 N fu a o (Int32.ofNat j) (axM Z f) = some (axM Z f') ∧ (∀ x, x ≠ a + 1 → x ≠ a + 2 → f' x = f x) ∧ (∀ k, k < 8 → f' (a + 1) k = if j ≤ k then f (o + 1) k else f (a + 1) k) ∧ ∀ k, k < 8 → f' (a + 2) k = if j ≤ k then f (o + 2) k else f (a + 2) k := by
  obtain ⟨h1, h2, h3, h4, h5⟩ := ha
  obtain ⟨o1, o2, o3, o4, o5⟩ := ho
  intro n
  induction n with
  | zero =>
    intro j fu f hj hf
    obtain ⟨fu, rfl⟩ : ∃ q, fu = q + 1 := ⟨fu - 1, by omega⟩
    show ∃ f', F_X5_take_98b N (F_X5_take_98 N fu) a o (Int32.ofNat j) (axM Z f) = _ ∧ _
    unfold F_X5_take_98b
    rw [if_pos (show (8 : Int32) ≤ Int32.ofNat j from qi_ge (i := 8) (by omega) (by omega))]
    exact ⟨f, rfl, fun x _ _ => rfl, fun k hk => by rw [if_neg (by omega)], fun k hk => by rw [if_neg (by omega)]⟩
  | succ n ih =>
    intro j fu f hj hf
    obtain ⟨fu, rfl⟩ : ∃ q, fu = q + 1 := ⟨fu - 1, by omega⟩
    show ∃ f', F_X5_take_98b N (F_X5_take_98 N fu) a o (Int32.ofNat j) (axM Z f) = _ ∧ _
    unfold F_X5_take_98b
    have hj8 : j < 8 := by omega
    rw [if_neg (show ¬ (8 : Int32) ≤ Int32.ofNat j from qi_nge (i := 8) (by omega) (by omega))]
    simp only [m_gr h1 h2, m_gr h1 h3, m_gr o1 o2, m_gr o1 o3, m_atn N o4 hj8 (by omega), m_atn N o5 hj8 (by omega), m_putn N h4 hj8 (by omega), m_putn N h5 hj8 (by omega), axB_s, axBV_s, qi_s, ax2_n _ _ _ _ (show o + 2 ≠ a + 1 by omega)]
    obtain ⟨f', e, g1, g2, g3⟩ := ih (j + 1) fu (ax2 (ax2 f (a + 1) j (f (o + 1) j)) (a + 2) j (f (o + 2) j)) (by omega) (by omega)
    refine ⟨f', e, fun x p q => by rw [g1 x p q, ax2_n _ _ _ _ q, ax2_n _ _ _ _ p], fun k hk => ?_, fun k hk => ?_⟩
    · rw [g2 k hk]
      simp only [ax2_n _ _ _ _ (show o + 1 ≠ a + 2 by omega), ax2_n _ _ _ _ (show o + 1 ≠ a + 1 by omega), ax2_n _ _ _ _ (show a + 1 ≠ a + 2 by omega), ax2_a]
      by_cases e1 : j + 1 ≤ k
      · rw [if_pos e1, if_pos (by omega)]
      · rw [if_neg e1]
        by_cases e2 : k = j
        · rw [if_pos e2, if_pos (by omega), e2]
        · rw [if_neg e2, if_neg (by omega)]
    · rw [g3 k hk]
      simp only [ax2_n _ _ _ _ (show o + 2 ≠ a + 2 by omega), ax2_n _ _ _ _ (show o + 2 ≠ a + 1 by omega), ax2_a, ax2_n _ _ _ _ (show a + 2 ≠ a + 1 by omega)]
      by_cases e1 : j + 1 ≤ k
      · rw [if_pos e1, if_pos (by omega)]
      · rw [if_neg e1]
        by_cases e2 : k = j
        · rw [if_pos e2, if_pos (by omega), e2]
        · rw [if_neg e2, if_neg (by omega)]
theorem qc_take {N : Nat} (hN : 8 < N) (ha : LSt Z a) (ho : LSt Z o) (hd : a + 2 < o ∨ o + 2 < a) : ∃ f', F_X5_take N a o (axM Z f) = some (axM Z f') ∧ rdSt f' a = rdSt f o ∧ ∀ x, x ≠ a → x ≠ a + 1 → x ≠ a + 2 → f' x = f x := by
  have h1 := ha.1
  have o1 := ho.1
  unfold F_X5_take
  simp only [m_gi o1, m_pi h1, ax2_n _ _ _ _ (show o ≠ a by omega)]
  obtain ⟨f', e, g1, g2, g3⟩ := qc_take_l N ha ho hd 8 0 N (ax2 (ax2 (ax2 (ax2 (ax2 (ax2 (ax2 (ax2 (ax2 (ax2 (ax2 (ax2 f a 0 (f o 0)) a 1 (f o 1)) a 2 (f o 2)) a 3 (f o 3)) a 4 (f o 4)) a 5 (f o 5)) a 6 (f o 6)) a 7 (f o 7)) a 8 (f o 8)) a 9 (f o 9)) a 10 (f o 10)) a 11 (f o 11)) (by omega) hN
  refine ⟨f', e, rdSt_c (fun k hk => ?_) (fun k hk => ?_) (fun k hk => ?_), fun x p q r => ?_⟩
  · rw [g1 a (by omega) (by omega)]
    have : k = 0 ∨ k = 1 ∨ k = 2 ∨ k = 3 ∨ k = 4 ∨ k = 5 ∨ k = 6 ∨ k = 7 ∨ k = 8 ∨ k = 9 ∨ k = 10 ∨ k = 11 := by omega
    rcases this with rfl | rfl | rfl | rfl | rfl | rfl | rfl | rfl | rfl | rfl | rfl | rfl <;> simp [ax2_a]
  · rw [g2 k hk, if_pos (Nat.zero_le _)]
    simp only [ax2_n _ _ _ _ (show o + 1 ≠ a by omega)]
  · rw [g3 k hk, if_pos (Nat.zero_le _)]
    simp only [ax2_n _ _ _ _ (show o + 2 ≠ a by omega)]
  · rw [g1 x q r]
    simp only [ax2_n _ _ _ _ p]
end
