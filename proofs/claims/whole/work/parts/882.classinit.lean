/-! the class's object, as it is laid -/
def a00 : TT := (fun _ => none, fun _ _ => none)
def a01 : TT := tn a00 0 (0, 9)
def a02 : TT := tp (t7 (tn a01 1 (0, 7)) 2 1) 0 0 1
def a03 : TT := tp (t1 (tn a02 3 (0, 1)) 4 3) 0 1 3
def a04 : TT := tp (t1 (tn a03 9 (0, 1)) 10 9) 0 2 9
def a05 : TT := tp (t4 (tn a04 15 (0, 4)) 16 15) 0 3 15
def a06 : TT := tp (t4 (tn a05 19 (0, 4)) 20 19) 0 4 19
def a07 : TT := tp (t0 (tn a06 23 (0, 0)) 24 23) 0 5 23
def a08 : TT := tp (t0 (tn a07 25 (0, 0)) 26 25) 0 6 25
def a09 : TT := tp (t6 (tn a08 27 (0, 6)) 28 27) 0 7 27
def a10 : TT := tp (t5 (tn a09 31 (0, 5)) 32 31) 0 8 31
def a11 : TT := tp (t5 (tn a10 34 (0, 5)) 35 34) 0 9 34
def a12 : TT := tp (t8 (tn a11 37 (0, 8)) 38 37 16) 0 10 37
def a13 : TT := tp (tn a12 87 (4, 3)) 0 11 87
def a14 : TT := tp (t2 (tn a13 88 (0, 2)) 89 88) 0 16 88
def a15 : TT := tp (tn a14 151 (1, 4)) 0 17 151
def a16 : TT := tp (tn a15 152 (1, 256)) 0 18 152
def a17 : TT := tp (tn a16 153 (1, 8)) 0 19 153
def a18 : TT := tp (t3 (tn a17 154 (0, 3)) 155 154) 87 0 154
def a19 : TT := tp (t3 (tn a18 208 (0, 3)) 209 208) 87 1 208
def a20 : TT := tp (t3 (tn a19 262 (0, 3)) 263 262) 87 2 262
/-- the cells of the class's object, as LCl has them -/
def CV (Z : AxS) (h : Nat) : Prop := (∀ a t, a < 316 → a20.1 a = t → axL Z (h + a) = t) ∧ ∀ a k q, a < 316 → a20.2 a k = some q → axP Z (h + a) k = some (h + q)
section
variable {Z : AxS} {h a : Nat}
theorem CV.fa (C : CV Z h) (ha : a + 5 < 316) (e : a20.1 a = some (0, 1) ∧ (a20.2 a 7 = some (a + 1) ∧ a20.1 (a + 1) = some (1, 12)) ∧ (a20.2 a 8 = some (a + 2) ∧ a20.1 (a + 2) = some (1, 6)) ∧ (a20.2 a 9 = some (a + 3) ∧ a20.1 (a + 3) = some (1, 8)) ∧ (a20.2 a 10 = some (a + 4) ∧ a20.1 (a + 4) = some (1, 8)) ∧ (a20.2 a 11 = some (a + 5) ∧ a20.1 (a + 5) = some (1, 4))) : LFa Z (h + a) := by
  obtain ⟨e1, ⟨e2, e3⟩, ⟨e4, e5⟩, ⟨e6, e7⟩, ⟨e8, e9⟩, e10, e11⟩ := e
  exact ⟨C.1 a _ (by omega) e1, ⟨C.2 a 7 _ (by omega) e2, C.1 (a + 1) _ (by omega) e3⟩, ⟨C.2 a 8 _ (by omega) e4, C.1 (a + 2) _ (by omega) e5⟩, ⟨C.2 a 9 _ (by omega) e6, C.1 (a + 3) _ (by omega) e7⟩, ⟨C.2 a 10 _ (by omega) e8, C.1 (a + 4) _ (by omega) e9⟩, C.2 a 11 _ (by omega) e10, C.1 (a + 5) _ (by omega) e11⟩
theorem CV.la (C : CV Z h) (ha : a + 3 < 316) (e : a20.1 a = some (0, 4) ∧ (a20.2 a 0 = some (a + 1) ∧ a20.1 (a + 1) = some (1, 150)) ∧ (a20.2 a 1 = some (a + 2) ∧ a20.1 (a + 2) = some (1, 7)) ∧ (a20.2 a 2 = some (a + 3) ∧ a20.1 (a + 3) = some (1, 32))) : LLa Z (h + a) := by
  obtain ⟨e1, ⟨e2, e3⟩, ⟨e4, e5⟩, e6, e7⟩ := e
  exact ⟨C.1 a _ (by omega) e1, ⟨C.2 a 0 _ (by omega) e2, C.1 (a + 1) _ (by omega) e3⟩, ⟨C.2 a 1 _ (by omega) e4, C.1 (a + 2) _ (by omega) e5⟩, C.2 a 2 _ (by omega) e6, C.1 (a + 3) _ (by omega) e7⟩
theorem CV.sp (C : CV Z h) (ha : a + 3 < 316) (e : a20.1 a = some (0, 6) ∧ (a20.2 a 0 = some (a + 1) ∧ a20.1 (a + 1) = some (1, 150)) ∧ (a20.2 a 1 = some (a + 2) ∧ a20.1 (a + 2) = some (1, 150)) ∧ (a20.2 a 2 = some (a + 3) ∧ a20.1 (a + 3) = some (1, 150))) : LSp Z (h + a) := by
  obtain ⟨e1, ⟨e2, e3⟩, ⟨e4, e5⟩, e6, e7⟩ := e
  exact ⟨C.1 a _ (by omega) e1, ⟨C.2 a 0 _ (by omega) e2, C.1 (a + 1) _ (by omega) e3⟩, ⟨C.2 a 1 _ (by omega) e4, C.1 (a + 2) _ (by omega) e5⟩, C.2 a 2 _ (by omega) e6, C.1 (a + 3) _ (by omega) e7⟩
theorem CV.bo (C : CV Z h) (ha : a + 1 < 316) (e : a20.1 a = some (0, 0) ∧ a20.2 a 0 = some (a + 1) ∧ a20.1 (a + 1) = some (1, 60)) : LBo Z (h + a) := ⟨C.1 a _ (by omega) e.1, C.2 a 0 _ (by omega) e.2.1, C.1 (a + 1) _ (by omega) e.2.2⟩
theorem CV.ta (C : CV Z h) (ha : a + 1 < 316) (e : a20.1 a = some (0, 7) ∧ a20.2 a 0 = some (a + 1) ∧ a20.1 (a + 1) = some (1, 600)) : LTa Z (h + a) := ⟨C.1 a _ (by omega) e.1, C.2 a 0 _ (by omega) e.2.1, C.1 (a + 1) _ (by omega) e.2.2⟩
theorem CV.st (C : CV Z h) (ha : a + 2 < 316) (e : a20.1 a = some (0, 5) ∧ a20.2 a 12 = some (a + 1) ∧ a20.2 a 13 = some (a + 2) ∧ a20.1 (a + 1) = some (1, 8) ∧ a20.1 (a + 2) = some (1, 8)) : LSt Z (h + a) := ⟨C.1 a _ (by omega) e.1, C.2 a 12 _ (by omega) e.2.1, C.2 a 13 _ (by omega) e.2.2.1, C.1 (a + 1) _ (by omega) e.2.2.2.1, C.1 (a + 2) _ (by omega) e.2.2.2.2⟩
theorem CV.wo (C : CV Z h) (ha : a + 49 < 316) (e : a20.1 a = some (0, 8) ∧ a20.2 a 0 = some (a + 1) ∧ a20.1 (a + 1) = some (5, 16)) (e2 : ∀ j, j < 16 → a20.2 (a + 1) j = some (a + 2 + 3 * j) ∧ a20.1 (a + 2 + 3 * j) = some (0, 5) ∧ a20.2 (a + 2 + 3 * j) 12 = some (a + 2 + 3 * j + 1) ∧ a20.2 (a + 2 + 3 * j) 13 = some (a + 2 + 3 * j + 2) ∧ a20.1 (a + 2 + 3 * j + 1) = some (1, 8) ∧ a20.1 (a + 2 + 3 * j + 2) = some (1, 8)) : LWo Z (h + a) := by
  refine ⟨C.1 a _ (by omega) e.1, ⟨C.2 a 0 _ (by omega) e.2.1, C.1 (a + 1) _ (by omega) e.2.2⟩, fun j hj => ?_⟩
  rw [show h + a + 2 + 3 * j = h + (a + 2 + 3 * j) by omega]
  exact ⟨C.2 (a + 1) j _ (by omega) (e2 j hj).1, C.st (by omega) (e2 j hj).2⟩
theorem CV.fi (C : CV Z h) (ha : a + 62 < 316) (e : a20.1 a = some (0, 2) ∧ (a20.2 a 7 = some (a + 1) ∧ a20.1 (a + 1) = some (1, 60)) ∧ a20.2 a 8 = some (a + 2) ∧ a20.1 (a + 2) = some (3, 60)) (e2 : ∀ j, j < 60 → a20.2 (a + 2) j = some (a + 3 + j) ∧ a20.1 (a + 3 + j) = some (1, 1000)) : LFi Z (h + a) := by
  refine ⟨C.1 a _ (by omega) e.1, ⟨C.2 a 7 _ (by omega) e.2.1.1, C.1 (a + 1) _ (by omega) e.2.1.2⟩, ⟨C.2 a 8 _ (by omega) e.2.2.1, C.1 (a + 2) _ (by omega) e.2.2.2⟩, fun j hj => ?_⟩
  rw [show h + a + 3 + j = h + (a + 3 + j) by omega]
  exact ⟨C.2 (a + 2) j _ (by omega) (e2 j hj).1, C.1 _ _ (by omega) (e2 j hj).2⟩
theorem CV.im (C : CV Z h) (ha : a + 53 < 316) (e : a20.1 a = some (0, 3) ∧ a20.2 a 0 = some (a + 1) ∧ a20.2 a 1 = some (a + 4)) (e1 : a20.1 (a + 1) = some (0, 5) ∧ a20.2 (a + 1) 12 = some (a + 1 + 1) ∧ a20.2 (a + 1) 13 = some (a + 1 + 2) ∧ a20.1 (a + 1 + 1) = some (1, 8) ∧ a20.1 (a + 1 + 2) = some (1, 8)) (e2 : a20.1 (a + 4) = some (0, 8) ∧ a20.2 (a + 4) 0 = some (a + 4 + 1) ∧ a20.1 (a + 4 + 1) = some (5, 16)) (e3 : ∀ j, j < 16 → a20.2 (a + 4 + 1) j = some (a + 4 + 2 + 3 * j) ∧ a20.1 (a + 4 + 2 + 3 * j) = some (0, 5) ∧ a20.2 (a + 4 + 2 + 3 * j) 12 = some (a + 4 + 2 + 3 * j + 1) ∧ a20.2 (a + 4 + 2 + 3 * j) 13 = some (a + 4 + 2 + 3 * j + 2) ∧ a20.1 (a + 4 + 2 + 3 * j + 1) = some (1, 8) ∧ a20.1 (a + 4 + 2 + 3 * j + 2) = some (1, 8)) : LIm Z (h + a) := ⟨C.1 a _ (by omega) e.1, ⟨C.2 a 0 _ (by omega) e.2.1, C.st (a := a + 1) (by omega) e1⟩, C.2 a 1 _ (by omega) e.2.2, C.wo (a := a + 4) (by omega) e2 e3⟩
theorem CV.cl (C : CV Z h) : LCl Z h (h + 3) (h + 9) (h + 15) (h + 19) (h + 23) (h + 25) := by
  have pb : ∀ {k q : Nat}, a20.2 0 k = some q → axP Z h k = some (h + q) := fun e => C.2 0 _ _ (by decide) e
  refine ⟨⟨C.1 0 _ (by decide) (by decide +kernel), pb (by decide +kernel), pb (by decide +kernel), pb (by decide +kernel), pb (by decide +kernel), pb (by decide +kernel), pb (by decide +kernel)⟩, ⟨C.fa (by decide) (by decide +kernel), C.fa (by decide) (by decide +kernel), C.la (by decide) (by decide +kernel), C.la (by decide) (by decide +kernel), C.bo (by decide) (by decide +kernel), C.bo (by decide) (by decide +kernel)⟩, Or.inl ⟨rfl, rfl⟩, Or.inl ⟨rfl, rfl⟩, Or.inl ⟨rfl, rfl⟩, ⟨pb (by decide +kernel), C.ta (by decide) (by decide +kernel)⟩, ⟨pb (by decide +kernel), C.sp (by decide) (by decide +kernel)⟩, ⟨pb (by decide +kernel), C.st (by decide) (by decide +kernel)⟩, ⟨pb (by decide +kernel), C.st (by decide) (by decide +kernel)⟩, ⟨pb (by decide +kernel), C.wo (by decide) (by decide +kernel) (by decide +kernel)⟩, ⟨pb (by decide +kernel), C.1 87 _ (by decide) (by decide +kernel), fun j hj => ?_⟩, ⟨pb (by decide +kernel), C.fi (by decide) (by decide +kernel) (by decide +kernel)⟩, ⟨pb (by decide +kernel), C.1 151 _ (by decide) (by decide +kernel)⟩, ⟨pb (by decide +kernel), C.1 152 _ (by decide) (by decide +kernel)⟩, pb (by decide +kernel), C.1 153 _ (by decide) (by decide +kernel)⟩
  have w : j = 0 ∨ j = 1 ∨ j = 2 := by omega
  rcases w with rfl | rfl | rfl
  · exact ⟨C.2 87 0 154 (by decide) (by decide +kernel), C.im (a := 154) (by decide) (by decide +kernel) (by decide +kernel) (by decide +kernel) (by decide +kernel)⟩
  · exact ⟨C.2 87 1 208 (by decide) (by decide +kernel), C.im (a := 208) (by decide) (by decide +kernel) (by decide +kernel) (by decide +kernel) (by decide +kernel)⟩
  · exact ⟨C.2 87 2 262 (by decide) (by decide +kernel), C.im (a := 262) (by decide) (by decide +kernel) (by decide +kernel) (by decide +kernel) (by decide +kernel)⟩
end
/-- the ints that it starts with -/
def CW (h : Nat) (v : Nat → Nat → Int32) : Prop := FAc v (h + 3) q_f0 ∧ clLaw v (h + 15) [] ∧ clB v (h + 23) (fun _ => -1) 0 ∧ v (h + 88) 0 = 0 ∧ rdSt v (h + 31) = q_beg q_f0 (q_f0 0 0) ∧ v (h + 37) 1 = 0 ∧ (v h 12 = 0 ∧ v h 13 = 0 ∧ v h 14 = 0 ∧ v h 15 = 0) ∧ v (h + 1) 1 = 0 ∧ v (h + 1) 5 = -1 ∧ ∀ j, v (h + 2) j = 0
section
variable {S0 Z : AxS} {h N : Nat} {v f : Nat → Nat → Int32}
theorem IV.cv (I : IV S0 h 316 a20 v Z f) : CV Z h := ⟨fun _ _ ha e => I.L ha e, fun _ _ _ ha e => I.pp ha e⟩
theorem i_X9 (hN : 2000 < N) (I : IV S0 h 1 a01 (fun _ _ => 0) Z f) : QQ (fun S => ∃ Z1 f1 v1, S = axM Z1 f1 ∧ IV S0 h 316 a20 v1 Z1 f1 ∧ CW h f1) (F_X9_init N h (axM Z f)) := by
  show QQ _ (F_X9_init N (h + 0) (axM Z f))
  unfold F_X9_init
  refine r_new (n1 := 2) rfl I fun Z f I => ?_
  refine r_bv (i_X7 I tn_s (by decide)) fun Z f I => ?_
  refine r_pr I (by decide +kernel) (by decide) fun Z I => ?_
  have I : IV S0 h 3 a02 _ Z f := I
  refine r_new (n1 := 4) rfl I fun Z f I => ?_
  obtain ⟨v2, q2, F2, o2⟩ := i_X1 (N := N) (by omega) I tn_s rfl
  refine r_bv q2 fun Z f I => ?_
  refine r_pr I (by decide +kernel) (by decide) fun Z I => ?_
  have I : IV S0 h 9 a03 _ Z f := I
  refine r_new (n1 := 10) rfl I fun Z f I => ?_
  obtain ⟨v3, q3, F3, o3⟩ := i_X1 (N := N) (by omega) I tn_s rfl
  refine r_bv q3 fun Z f I => ?_
  refine r_pr I (by decide +kernel) (by decide) fun Z I => ?_
  have I : IV S0 h 15 a04 _ Z f := I
  refine r_new (n1 := 16) rfl I fun Z f I => ?_
  refine r_bv (i_X4 I tn_s (by decide)) fun Z f I => ?_
  refine r_pr I (by decide +kernel) (by decide) fun Z I => ?_
  have I : IV S0 h 19 a05 _ Z f := I
  refine r_new (n1 := 20) rfl I fun Z f I => ?_
  refine r_bv (i_X4 I tn_s (by decide)) fun Z f I => ?_
  refine r_pr I (by decide +kernel) (by decide) fun Z I => ?_
  have I : IV S0 h 23 a06 _ Z f := I
  refine r_new (n1 := 24) rfl I fun Z f I => ?_
  refine r_bv (i_X0 I tn_s (by decide)) fun Z f I => ?_
  refine r_pr I (by decide +kernel) (by decide) fun Z I => ?_
  have I : IV S0 h 25 a07 _ Z f := I
  refine r_new (n1 := 26) rfl I fun Z f I => ?_
  refine r_bv (i_X0 I tn_s (by decide)) fun Z f I => ?_
  refine r_pr I (by decide +kernel) (by decide) fun Z I => ?_
  have I : IV S0 h 27 a08 _ Z f := I
  refine r_new (n1 := 28) rfl I fun Z f I => ?_
  refine r_bv (i_X6 I tn_s (by decide)) fun Z f I => ?_
  refine r_pr I (by decide +kernel) (by decide) fun Z I => ?_
  have I : IV S0 h 31 a09 _ Z f := I
  refine r_new (n1 := 32) rfl I fun Z f I => ?_
  refine r_bv (i_X5 I tn_s (by decide)) fun Z f I => ?_
  refine r_pr I (by decide +kernel) (by decide) fun Z I => ?_
  have I : IV S0 h 34 a10 _ Z f := I
  refine r_new (n1 := 35) rfl I fun Z f I => ?_
  refine r_bv (i_X5 I tn_s (by decide)) fun Z f I => ?_
  refine r_pr I (by decide +kernel) (by decide) fun Z I => ?_
  have I : IV S0 h 37 a11 _ Z f := I
  refine r_new (n1 := 38) rfl I fun Z f I => ?_
  refine r_bv (i_X8 I tn_s (by decide)) fun Z f I => ?_
  refine r_pr I (by decide +kernel) (by decide) fun Z I => ?_
  have I : IV S0 h 87 a12 _ Z f := I
  refine r_new (n1 := 88) rfl I fun Z f I => ?_
  refine r_pr I (by decide +kernel) (by decide) fun Z I => ?_
  have I : IV S0 h 88 a13 _ Z f := I
  refine r_new (n1 := 89) rfl I fun Z f I => ?_
  refine r_bv (i_X2 I tn_s (by decide)) fun Z f I => ?_
  refine r_pr I (by decide +kernel) (by decide) fun Z I => ?_
  have I : IV S0 h 151 a14 _ Z f := I
  refine r_new (n1 := 152) rfl I fun Z f I => ?_
  refine r_pr I (by decide +kernel) (by decide) fun Z I => ?_
  have I : IV S0 h 152 a15 _ Z f := I
  refine r_new (n1 := 153) rfl I fun Z f I => ?_
  refine r_pr I (by decide +kernel) (by decide) fun Z I => ?_
  have I : IV S0 h 153 a16 _ Z f := I
  refine r_new (n1 := 154) rfl I fun Z f I => ?_
  refine r_pr I (by decide +kernel) (by decide) fun Z I => ?_
  have I : IV S0 h 154 a17 _ Z f := I
  show QQ _ (F_X9_init_170b N (F_X9_init_170 N 3) (h + 0) (Int32.ofNat 0) (axM Z f))
  unfold F_X9_init_170b
  refine r_gr (q := 87) I (by decide +kernel) (by decide +kernel) (by decide) ?_
  refine r_len (t := 3) (len := 3) I (by decide +kernel) (by decide) (by decide) ?_
  rw [if_neg (by decide)]
  refine r_gr (q := 87) I (by decide +kernel) (by decide +kernel) (by decide) ?_
  refine r_new (n1 := 155) rfl I fun Z f I => ?_
  refine r_bv (i_X3 I tn_s (by decide)) fun Z f I => ?_
  refine r_str (len := 3) I (by decide +kernel) (by decide +kernel) (by decide) (by decide) (by decide) (by decide) fun Z I => ?_
  have I : IV S0 h 208 a18 _ Z f := I
  show QQ _ (F_X9_init_170b N (F_X9_init_170 N 2) (h + 0) (Int32.ofNat 1) (axM Z f))
  unfold F_X9_init_170b
  refine r_gr (q := 87) I (by decide +kernel) (by decide +kernel) (by decide) ?_
  refine r_len (t := 3) (len := 3) I (by decide +kernel) (by decide) (by decide) ?_
  rw [if_neg (by decide)]
  refine r_gr (q := 87) I (by decide +kernel) (by decide +kernel) (by decide) ?_
  refine r_new (n1 := 209) rfl I fun Z f I => ?_
  refine r_bv (i_X3 I tn_s (by decide)) fun Z f I => ?_
  refine r_str (len := 3) I (by decide +kernel) (by decide +kernel) (by decide) (by decide) (by decide) (by decide) fun Z I => ?_
  have I : IV S0 h 262 a19 _ Z f := I
  show QQ _ (F_X9_init_170b N (F_X9_init_170 N 1) (h + 0) (Int32.ofNat 2) (axM Z f))
  unfold F_X9_init_170b
  refine r_gr (q := 87) I (by decide +kernel) (by decide +kernel) (by decide) ?_
  refine r_len (t := 3) (len := 3) I (by decide +kernel) (by decide) (by decide) ?_
  rw [if_neg (by decide)]
  refine r_gr (q := 87) I (by decide +kernel) (by decide +kernel) (by decide) ?_
  refine r_new (n1 := 263) rfl I fun Z f I => ?_
  refine r_bv (i_X3 I tn_s (by decide)) fun Z f I => ?_
  refine r_str (len := 3) I (by decide +kernel) (by decide +kernel) (by decide) (by decide) (by decide) (by decide) fun Z I => ?_
  have I : IV S0 h 316 a20 _ Z f := I
  show QQ _ (F_X9_init_170b N (F_X9_init_170 N 0) (h + 0) (Int32.ofNat 3) (axM Z f))
  unfold F_X9_init_170b
  refine r_gr (q := 87) I (by decide +kernel) (by decide +kernel) (by decide) ?_
  refine r_len (t := 3) (len := 3) I (by decide +kernel) (by decide) (by decide) ?_
  rw [if_pos (by decide)]
  refine r_is I (by decide +kernel) (by decide) ?_
  have C := I.cv.cl
  have v3F : FAc v3 (h + 3) q_f0 := F2.fr fun i hi => o3 _ (by omega) (by omega) (by omega)
  have fF : FAc f (h + 3) q_f0 := v3F.fr fun i hi => I.2.2.1 _ (by omega) (by omega)
  obtain ⟨f2, e2, y1, y2, y3, y4, y5, y6, y7, y8, y9⟩ := qc_anew (N := N) (f := f) (ψ := q_f0) hN C (fF.1 0 (by omega)) (fF.1 2 (by omega))
  rw [Nat.add_zero, e2, axBV_s]
  have oo : ∀ x k, h ≤ x → x < h + 316 → x ≠ h + 1 → x ≠ h + 3 → x ≠ h + 4 → x ≠ h + 9 → x ≠ h + 10 → f x k = 0 := fun x k p1 p2 p3 p4 p5 p6 p7 => by
    rw [I.2.2.1 x p1 p2, o3 x p1 p6 p7, o2 x p1 p4 p5, ax2_n _ _ _ _ (by omega)]
  have ot : ∀ k, f (h + 1) k = if k = 5 then -1 else 0 := fun k => by
    rw [I.2.2.1 _ (by omega) (by omega), o3 _ (by omega) (by omega) (by omega), o2 _ (by omega) (by omega) (by omega), ax2_a]
  refine ⟨_, rfl, Z, f2, _, rfl, I.re f2 fun x hx => y8 x (by omega) (by omega), fF.fr fun i hi => y8 _ (by omega) (by omega), y1, y2, y3, y4, y5, ⟨y6, y7, ?_, ?_⟩, ?_, ?_, fun j => ?_⟩
  · rw [y9 _ (by decide) (by decide), oo h 14 (by omega) (by omega) (by omega) (by omega) (by omega) (by omega) (by omega)]
  · rw [y9 _ (by decide) (by decide), oo h 15 (by omega) (by omega) (by omega) (by omega) (by omega) (by omega) (by omega)]
  · rw [y8 _ (by omega) (by omega), ot]
    rfl
  · rw [y8 _ (by omega) (by omega), ot]
    rfl
  · rw [y8 _ (by omega) (by omega), oo _ j (by omega) (by omega) (by omega) (by omega) (by omega) (by omega) (by omega)]
end
