/-! where what lies -/
def LFa (Z : AxS) (a : Nat) : Prop := axL Z a = some (0, 1) ∧ (axP Z a 7 = some (a + 1) ∧ axL Z (a + 1) = some (1, 12)) ∧ (axP Z a 8 = some (a + 2) ∧ axL Z (a + 2) = some (1, 6)) ∧ (axP Z a 9 = some (a + 3) ∧ axL Z (a + 3) = some (1, 8)) ∧ (axP Z a 10 = some (a + 4) ∧ axL Z (a + 4) = some (1, 8)) ∧ (axP Z a 11 = some (a + 5) ∧ axL Z (a + 5) = some (1, 4))
def LLa (Z : AxS) (a : Nat) : Prop := axL Z a = some (0, 4) ∧ (axP Z a 0 = some (a + 1) ∧ axL Z (a + 1) = some (1, 150)) ∧ (axP Z a 1 = some (a + 2) ∧ axL Z (a + 2) = some (1, 7)) ∧ (axP Z a 2 = some (a + 3) ∧ axL Z (a + 3) = some (1, 32))
def LBo (Z : AxS) (a : Nat) : Prop := axL Z a = some (0, 0) ∧ (axP Z a 0 = some (a + 1) ∧ axL Z (a + 1) = some (1, 60))
def LTa (Z : AxS) (a : Nat) : Prop := axL Z a = some (0, 7) ∧ (axP Z a 0 = some (a + 1) ∧ axL Z (a + 1) = some (1, 600))
def LSp (Z : AxS) (a : Nat) : Prop := axL Z a = some (0, 6) ∧ (axP Z a 0 = some (a + 1) ∧ axL Z (a + 1) = some (1, 150)) ∧ (axP Z a 1 = some (a + 2) ∧ axL Z (a + 2) = some (1, 150)) ∧ (axP Z a 2 = some (a + 3) ∧ axL Z (a + 3) = some (1, 150))
def LWo (Z : AxS) (a : Nat) : Prop := axL Z a = some (0, 8) ∧ (axP Z a 0 = some (a + 1) ∧ axL Z (a + 1) = some (5, 16)) ∧ ∀ j, j < 16 → axP Z (a + 1) j = some (a + 2 + 3 * j) ∧ LSt Z (a + 2 + 3 * j)
def LIm (Z : AxS) (a : Nat) : Prop := axL Z a = some (0, 3) ∧ (axP Z a 0 = some (a + 1) ∧ LSt Z (a + 1)) ∧ (axP Z a 1 = some (a + 4) ∧ LWo Z (a + 4))
def LFi (Z : AxS) (a : Nat) : Prop := axL Z a = some (0, 2) ∧ (axP Z a 7 = some (a + 1) ∧ axL Z (a + 1) = some (1, 60)) ∧ (axP Z a 8 = some (a + 2) ∧ axL Z (a + 2) = some (3, 60)) ∧ ∀ j, j < 60 → axP Z (a + 2) j = some (a + 3 + j) ∧ axL Z (a + 3 + j) = some (1, 1000)
/-- the class's object at b, with its facts, law and lines, and the spare ones -/
def LCl (Z : AxS) (b fa sf la sl bo sb : Nat) : Prop :=
  (axL Z b = some (0, 9) ∧ axP Z b 1 = some fa ∧ axP Z b 2 = some sf ∧ axP Z b 3 = some la ∧ axP Z b 4 = some sl ∧ axP Z b 5 = some bo ∧ axP Z b 6 = some sb) ∧
  (LFa Z fa ∧ LFa Z sf ∧ LLa Z la ∧ LLa Z sl ∧ LBo Z bo ∧ LBo Z sb) ∧
  ((fa = b + 3 ∧ sf = b + 9) ∨ (fa = b + 9 ∧ sf = b + 3)) ∧ ((la = b + 15 ∧ sl = b + 19) ∨ (la = b + 19 ∧ sl = b + 15)) ∧ ((bo = b + 23 ∧ sb = b + 25) ∨ (bo = b + 25 ∧ sb = b + 23)) ∧
  (axP Z b 0 = some (b + 1) ∧ LTa Z (b + 1)) ∧ (axP Z b 7 = some (b + 27) ∧ LSp Z (b + 27)) ∧ (axP Z b 8 = some (b + 31) ∧ LSt Z (b + 31)) ∧ (axP Z b 9 = some (b + 34) ∧ LSt Z (b + 34)) ∧ (axP Z b 10 = some (b + 37) ∧ LWo Z (b + 37)) ∧
  (axP Z b 11 = some (b + 87) ∧ axL Z (b + 87) = some (4, 3) ∧ ∀ j, j < 3 → axP Z (b + 87) j = some (b + 154 + 54 * j) ∧ LIm Z (b + 154 + 54 * j)) ∧ (axP Z b 16 = some (b + 88) ∧ LFi Z (b + 88)) ∧
  (axP Z b 17 = some (b + 151) ∧ axL Z (b + 151) = some (1, 4)) ∧ (axP Z b 18 = some (b + 152) ∧ axL Z (b + 152) = some (1, 256)) ∧ (axP Z b 19 = some (b + 153) ∧ axL Z (b + 153) = some (1, 8))
/-- the model's object at m -/
def q_mp (k : Nat) : Option Nat := match k with
  | 9 => some 1
  | 10 => some 2
  | 11 => some 3
  | 12 => some 4
  | 13 => some 5
  | 14 => some 6
  | 15 => some 7
  | 16 => some 12
  | 19 => some 17
  | 20 => some 178
  | 21 => some 339
  | 22 => some 348
  | 23 => some 357
  | 24 => some 358
  | 25 => some 359
  | 27 => some 440
  | 28 => some 441
  | 29 => some 442
  | 30 => some 459
  | 38 => some 463
  | 39 => some 464
  | 40 => some 465
  | 41 => some 526
  | 42 => some 527
  | 43 => some 528
  | 45 => some 529
  | 46 => some 530
  | _ => none
def q_ms (t : Nat) : Option (Nat × Nat) := match t with
  | 1 => some (1, 600)
  | 2 => some (1, 2)
  | 3 => some (1, 7)
  | 4 => some (1, 7)
  | 5 => some (1, 12)
  | 6 => some (1, 12)
  | 7 => some (3, 4)
  | 12 => some (3, 4)
  | 17 => some (3, 160)
  | 178 => some (3, 160)
  | 339 => some (3, 8)
  | 348 => some (3, 8)
  | 357 => some (1, 160)
  | 358 => some (1, 7)
  | 359 => some (3, 80)
  | 440 => some (1, 29)
  | 441 => some (1, 29)
  | 442 => some (3, 16)
  | 459 => some (3, 3)
  | 463 => some (1, 5)
  | 464 => some (1, 60)
  | 465 => some (3, 60)
  | 526 => some (2, 10)
  | 527 => some (1, 8)
  | 528 => some (1, 8)
  | 529 => some (1, 8)
  | 530 => some (1, 4)
  | _ => none
def q_m2 (t : Nat) : Option (Nat × Nat) := match t with
  | 7 => some (4, 8)
  | 12 => some (4, 8)
  | 17 => some (160, 2)
  | 178 => some (160, 2)
  | 339 => some (8, 2)
  | 348 => some (8, 2)
  | 359 => some (80, 4)
  | 442 => some (16, 29)
  | 459 => some (3, 494)
  | 465 => some (60, 1000)
  | _ => none
def LMo (Z : AxS) (m : Nat) : Prop := axL Z m = some (0, 10) ∧ (∀ k t, q_mp k = some t → axP Z m k = some (m + t)) ∧ (∀ t sh, q_ms t = some sh → axL Z (m + t) = some sh) ∧ ∀ t n K, q_m2 t = some (n, K) → ∀ j, j < n → axP Z (m + t) j = some (m + (t + 1) + j) ∧ axL Z (m + (t + 1) + j) = some (1, K)
/-- the facts that the class has, and the model's -/
def rdF (f : Nat → Nat → Int32) (a : Nat) : QF := fun t k => match t with
  | 0 => if k < 7 then f a k else 0
  | 1 => if k < 12 then f (a + 1) k else 0
  | 2 => if k < (f a 3).toNatClampNeg then f (a + 2) k else 0
  | 3 => if k < (f a 4).toNatClampNeg then f (a + 3) k else 0
  | 4 => if k < (f a 5).toNatClampNeg then f (a + 4) k else 0
  | 5 => if k < (f a 6).toNatClampNeg then f (a + 5) k else 0
  | _ => 0
def q_tp (k : Nat) : Nat := match k with
  | 0 => 4
  | 1 => 5
  | 2 => 6
  | 3 => 0
  | 4 => 1
  | 5 => 2
  | _ => 3
def rdG (f : Nat → Nat → Int32) (m : Nat) : QF := fun t k => match t with
  | 0 => if k < 7 then f (m + 4) (q_tp k) else 0
  | 1 => if k < 12 then f (m + 6) k else 0
  | 2 => if k < (f (m + 4) 0).toNatClampNeg then f (m + 13) k else 0
  | 3 => if k < (f (m + 4) 1).toNatClampNeg then f (m + 14) k else 0
  | 4 => if k < (f (m + 4) 2).toNatClampNeg then f (m + 15) k else 0
  | 5 => if k < (f (m + 4) 3).toNatClampNeg then f (m + 16) k else 0
  | _ => 0
section
variable {f : Nat → Nat → Int32} {a m k : Nat} {ψ : QF}
theorem rdF_0 (h : rdF f a = ψ) (hk : k < 7) : f a k = ψ 0 k := by
  rw [← h]
  exact (if_pos hk).symm
theorem rdF_1 (h : rdF f a = ψ) (hk : k < 12) : f (a + 1) k = ψ 1 k := by
  rw [← h]
  exact (if_pos hk).symm
theorem rdF_2 (h : rdF f a = ψ) (hk : k < (ψ 0 3).toNatClampNeg) : f (a + 2) k = ψ 2 k := by
  have e := rdF_0 h (show 3 < 7 by omega)
  rw [← h]
  exact (if_pos (by rw [e]; exact hk)).symm
theorem rdF_3 (h : rdF f a = ψ) (hk : k < (ψ 0 4).toNatClampNeg) : f (a + 3) k = ψ 3 k := by
  have e := rdF_0 h (show 4 < 7 by omega)
  rw [← h]
  exact (if_pos (by rw [e]; exact hk)).symm
theorem rdF_4 (h : rdF f a = ψ) (hk : k < (ψ 0 5).toNatClampNeg) : f (a + 4) k = ψ 4 k := by
  have e := rdF_0 h (show 5 < 7 by omega)
  rw [← h]
  exact (if_pos (by rw [e]; exact hk)).symm
theorem rdF_5 (h : rdF f a = ψ) (hk : k < (ψ 0 6).toNatClampNeg) : f (a + 5) k = ψ 5 k := by
  have e := rdF_0 h (show 6 < 7 by omega)
  rw [← h]
  exact (if_pos (by rw [e]; exact hk)).symm
theorem rdG_0 (h : rdG f m = ψ) (hk : k < 7) : f (m + 4) (q_tp k) = ψ 0 k := by
  rw [← h]
  exact (if_pos hk).symm
theorem rdG_1 (h : rdG f m = ψ) (hk : k < 12) : f (m + 6) k = ψ 1 k := by
  rw [← h]
  exact (if_pos hk).symm
theorem rdG_2 (h : rdG f m = ψ) (hk : k < (ψ 0 3).toNatClampNeg) : f (m + 13) k = ψ 2 k := by
  have e : f (m + 4) 0 = ψ 0 3 := rdG_0 h (show 3 < 7 by omega)
  rw [← h]
  exact (if_pos (by rw [e]; exact hk)).symm
theorem rdG_3 (h : rdG f m = ψ) (hk : k < (ψ 0 4).toNatClampNeg) : f (m + 14) k = ψ 3 k := by
  have e : f (m + 4) 1 = ψ 0 4 := rdG_0 h (show 4 < 7 by omega)
  rw [← h]
  exact (if_pos (by rw [e]; exact hk)).symm
theorem rdG_4 (h : rdG f m = ψ) (hk : k < (ψ 0 5).toNatClampNeg) : f (m + 15) k = ψ 4 k := by
  have e : f (m + 4) 2 = ψ 0 5 := rdG_0 h (show 5 < 7 by omega)
  rw [← h]
  exact (if_pos (by rw [e]; exact hk)).symm
theorem rdG_5 (h : rdG f m = ψ) (hk : k < (ψ 0 6).toNatClampNeg) : f (m + 16) k = ψ 5 k := by
  have e : f (m + 4) 3 = ψ 0 6 := rdG_0 h (show 6 < 7 by omega)
  rw [← h]
  exact (if_pos (by rw [e]; exact hk)).symm
theorem rdF_e {g : Nat → Nat → Int32} (h : ∀ x, a ≤ x → x ≤ a + 5 → g x = f x) : rdF g a = rdF f a := by
  funext t k
  have h0 := h a (by omega) (by omega)
  have h1 := h (a + 1) (by omega) (by omega)
  have h2 := h (a + 2) (by omega) (by omega)
  have h3 := h (a + 3) (by omega) (by omega)
  have h4 := h (a + 4) (by omega) (by omega)
  have h5 := h (a + 5) (by omega) (by omega)
  unfold rdF
  split <;> simp only [h0, h1, h2, h3, h4, h5]
theorem rdG_e {g : Nat → Nat → Int32} (h : ∀ x, m + 4 ≤ x → x ≤ m + 16 → g x = f x) : rdG g m = rdG f m := by
  funext t k
  have h0 := h (m + 4) (by omega) (by omega)
  have h1 := h (m + 6) (by omega) (by omega)
  have h2 := h (m + 13) (by omega) (by omega)
  have h3 := h (m + 14) (by omega) (by omega)
  have h4 := h (m + 15) (by omega) (by omega)
  have h5 := h (m + 16) (by omega) (by omega)
  unfold rdG
  split <;> simp only [h0, h1, h2, h3, h4, h5]
end
/-- a model's row -/
def rdM (f : Nat → Nat → Int32) (a : Nat) : QR := fun k => if k < 29 then f a k else 0
theorem rdM_k (f : Nat → Nat → Int32) (a : Nat) {k : Nat} (h : k < 29) : f a k = rdM f a k := (if_pos h).symm
theorem rdM_w (f : Nat → Nat → Int32) (a : Nat) (v : Int32) {k : Nat} (h : k < 29) : rdM (ax2 f a k v) a = q_set (rdM f a) k v := by
  funext j
  unfold rdM q_set
  rw [ax2_a]
  by_cases e : j = k
  · rw [if_pos e, if_pos e, if_pos (by omega)]
  · rw [if_neg e, if_neg e]
theorem rdM_e {f g : Nat → Nat → Int32} {a b : Nat} (h : ∀ k, k < 29 → f a k = g b k) : rdM f a = rdM g b := by
  funext j
  unfold rdM
  by_cases e : j < 29
  · rw [if_pos e, if_pos e, h j e]
  · rw [if_neg e, if_neg e]
theorem rdM_n (f : Nat → Nat → Int32) {a x k : Nat} (v : Int32) (h : a ≠ x) : rdM (ax2 f x k v) a = rdM f a := rdM_e (fun j _ => by rw [ax2_n _ _ _ _ h])
/-- the class's law, the model's law -/
def q_enc (q : Int32 × Int32) : Int32 := if q.1 = 0 then q.2 else if q.1 = 1 then 1000 + q.2 else 1998 + q.1
def q_code (l : QL) : List Int32 := if l = [] then [1000, 10, 2003] else l.map q_enc
def clLaw (f : Nat → Nat → Int32) (a : Nat) (l : QL) : Prop := f a 3 = Int32.ofNat (q_code l).length ∧ (q_code l).length ≤ 150 ∧ ∀ k x, (q_code l)[k]? = some x → f (a + 1) k = x
def mlLaw (f : Nat → Nat → Int32) (m : Nat) (l : QL) : Prop := f m 17 = Int32.ofNat l.length ∧ l.length ≤ 150 ∧ ∀ k q, l[k]? = some q → f (m + 18 + k) 0 = q.1 ∧ f (m + 18 + k) 1 = q.2
