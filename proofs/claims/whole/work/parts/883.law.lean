/-! the model's object, as it is laid; the law from its start -/
def m00 : TT := tn a00 0 (0, 10)
def m01 : TT := tp (tn m00 1 (1, 600)) 0 9 1
def m02 : TT := tp (tn m01 2 (1, 2)) 0 10 2
def m03 : TT := tp (tn m02 3 (1, 7)) 0 11 3
def m04 : TT := tp (tn m03 4 (1, 7)) 0 12 4
def m05 : TT := tp (tn m04 5 (1, 12)) 0 13 5
def m06 : TT := tp (tn m05 6 (1, 12)) 0 14 6
def m07 : TT := tp (tM m06 7 4 8) 0 15 7
def m08 : TT := tp (tM m07 12 4 8) 0 16 12
def m09 : TT := tp (tM m08 17 160 2) 0 19 17
def m10 : TT := tp (tM m09 178 160 2) 0 20 178
def m11 : TT := tp (tM m10 339 8 2) 0 21 339
def m12 : TT := tp (tM m11 348 8 2) 0 22 348
def m13 : TT := tp (tn m12 357 (1, 160)) 0 23 357
def m14 : TT := tp (tn m13 358 (1, 7)) 0 24 358
def m15 : TT := tp (tM m14 359 80 4) 0 25 359
def m16 : TT := tp (tn m15 440 (1, 29)) 0 27 440
def m17 : TT := tp (tn m16 441 (1, 29)) 0 28 441
def m18 : TT := tp (tM m17 442 16 29) 0 29 442
def m19 : TT := tp (tM m18 459 3 494) 0 30 459
def m20 : TT := tp (tn m19 463 (1, 5)) 0 38 463
def m21 : TT := tp (tn m20 464 (1, 60)) 0 39 464
def m22 : TT := tp (tM m21 465 60 1000) 0 40 465
def m23 : TT := tp (tn m22 526 (2, 10)) 0 41 526
def m24 : TT := tp (tn m23 527 (1, 8)) 0 42 527
def m25 : TT := tp (tn m24 528 (1, 8)) 0 43 528
def m26 : TT := tp (tn m25 529 (1, 8)) 0 45 529
def m27 : TT := tp (tn m26 530 (1, 4)) 0 46 530
def MV (Z : AxS) (m : Nat) : Prop := (∀ a t, a < 531 → m27.1 a = t → axL Z (m + a) = t) ∧ ∀ a k q, a < 531 → m27.2 a k = some q → axP Z (m + a) k = some (m + q)
section
variable {S0 Z : AxS} {h m N : Nat} {T : TT} {v f : Nat → Nat → Int32}
theorem MV.mo (C : MV Z m) : LMo Z m := by
  refine ⟨C.1 0 _ (by decide) (by decide +kernel), fun k t e => ?_, fun t sh e => ?_, fun t n K e => ?_⟩
  · unfold q_mp at e
    split at e <;> first | (cases e; exact C.2 0 _ _ (by decide) (by decide +kernel)) | cases e
  · unfold q_ms at e
    split at e <;> first | (cases e; exact C.1 _ _ (by decide) (by decide +kernel)) | cases e
  · unfold q_m2 at e
    have key : ∀ {t n K : Nat}, (∀ j, j < n → t + 1 + j < 531) → (∀ j, j < n → m27.2 t j = some (t + 1 + j) ∧ m27.1 (t + 1 + j) = some (1, K)) → ∀ j, j < n → axP Z (m + t) j = some (m + (t + 1) + j) ∧ axL Z (m + (t + 1) + j) = some (1, K) := fun {t n K} a1 a2 j hj => by
      rw [Nat.add_assoc m (t + 1) j]
      exact ⟨C.2 t j _ (by have := a1 j hj; omega) (a2 j hj).1, C.1 _ _ (a1 j hj) (a2 j hj).2⟩
    split at e <;> first | (cases e; exact key (fun j hj => by omega) (by decide +kernel)) | cases e
theorem IV.mv (I : IV S0 h 531 m27 v Z f) : MV Z h := ⟨fun _ _ ha e => I.L ha e, fun _ _ _ ha e => I.pp ha e⟩
/-- the ints that the model starts with -/
def MW (m : Nat) (f : Nat → Nat → Int32) : Prop := rdG f m = q_msk q_f0 ∧ rdM f (m + 440) = q_beg q_f0 (q_f0 0 0) ∧ (f m 17 = 0 ∧ f m 31 = 0 ∧ f m 32 = 0 ∧ f m 33 = 0 ∧ f m 34 = 0) ∧ f m 1 = 0 ∧ f m 3 = -1 ∧ (∀ j, f (m + 1) j = 0) ∧ f (m + 2) 0 = 0 ∧ f (m + 2) 1 = 0
theorem i_X10 (hN : 2000 < N) (I : IV S0 h 1 m00 (fun _ _ => 0) Z f) : QQ (fun S => ∃ Z1 f1 v1, S = axM Z1 f1 ∧ IV S0 h 531 m27 v1 Z1 f1 ∧ MW h f1) (F_X10_init N h (axM Z f)) := by
  show QQ _ (F_X10_init N (h + 0) (axM Z f))
  unfold F_X10_init
  refine r_pi I (by decide +kernel) (by decide) fun f I => ?_
  refine r_new (n1 := 2) rfl I fun Z f I => ?_
  refine r_pr I (by decide +kernel) (by decide) fun Z I => ?_
  have I : IV S0 h 2 m01 _ Z f := I
  refine r_new (n1 := 3) rfl I fun Z f I => ?_
  refine r_pr I (by decide +kernel) (by decide) fun Z I => ?_
  have I : IV S0 h 3 m02 _ Z f := I
  refine r_new (n1 := 4) rfl I fun Z f I => ?_
  refine r_pr I (by decide +kernel) (by decide) fun Z I => ?_
  have I : IV S0 h 4 m03 _ Z f := I
  refine r_new (n1 := 5) rfl I fun Z f I => ?_
  refine r_pr I (by decide +kernel) (by decide) fun Z I => ?_
  have I : IV S0 h 5 m04 _ Z f := I
  refine r_new (n1 := 6) rfl I fun Z f I => ?_
  refine r_pr I (by decide +kernel) (by decide) fun Z I => ?_
  have I : IV S0 h 6 m05 _ Z f := I
  refine r_new (n1 := 7) rfl I fun Z f I => ?_
  refine r_pr I (by decide +kernel) (by decide) fun Z I => ?_
  have I : IV S0 h 7 m06 _ Z f := I
  refine r_newM (n1 := 12) rfl I fun Z f I => ?_
  refine r_pr I (by decide +kernel) (by decide) fun Z I => ?_
  have I : IV S0 h 12 m07 _ Z f := I
  refine r_newM (n1 := 17) rfl I fun Z f I => ?_
  refine r_pr I (by decide +kernel) (by decide) fun Z I => ?_
  have I : IV S0 h 17 m08 _ Z f := I
  refine r_newM (n1 := 178) rfl I fun Z f I => ?_
  refine r_pr I (by decide +kernel) (by decide) fun Z I => ?_
  have I : IV S0 h 178 m09 _ Z f := I
  refine r_newM (n1 := 339) rfl I fun Z f I => ?_
  refine r_pr I (by decide +kernel) (by decide) fun Z I => ?_
  have I : IV S0 h 339 m10 _ Z f := I
  refine r_newM (n1 := 348) rfl I fun Z f I => ?_
  refine r_pr I (by decide +kernel) (by decide) fun Z I => ?_
  have I : IV S0 h 348 m11 _ Z f := I
  refine r_newM (n1 := 357) rfl I fun Z f I => ?_
  refine r_pr I (by decide +kernel) (by decide) fun Z I => ?_
  have I : IV S0 h 357 m12 _ Z f := I
  refine r_new (n1 := 358) rfl I fun Z f I => ?_
  refine r_pr I (by decide +kernel) (by decide) fun Z I => ?_
  have I : IV S0 h 358 m13 _ Z f := I
  refine r_new (n1 := 359) rfl I fun Z f I => ?_
  refine r_pr I (by decide +kernel) (by decide) fun Z I => ?_
  have I : IV S0 h 359 m14 _ Z f := I
  refine r_newM (n1 := 440) rfl I fun Z f I => ?_
  refine r_pr I (by decide +kernel) (by decide) fun Z I => ?_
  have I : IV S0 h 440 m15 _ Z f := I
  refine r_new (n1 := 441) rfl I fun Z f I => ?_
  refine r_pr I (by decide +kernel) (by decide) fun Z I => ?_
  have I : IV S0 h 441 m16 _ Z f := I
  refine r_new (n1 := 442) rfl I fun Z f I => ?_
  refine r_pr I (by decide +kernel) (by decide) fun Z I => ?_
  have I : IV S0 h 442 m17 _ Z f := I
  refine r_newM (n1 := 459) rfl I fun Z f I => ?_
  refine r_pr I (by decide +kernel) (by decide) fun Z I => ?_
  have I : IV S0 h 459 m18 _ Z f := I
  refine r_newM (n1 := 463) rfl I fun Z f I => ?_
  refine r_pr I (by decide +kernel) (by decide) fun Z I => ?_
  have I : IV S0 h 463 m19 _ Z f := I
  refine r_new (n1 := 464) rfl I fun Z f I => ?_
  refine r_pr I (by decide +kernel) (by decide) fun Z I => ?_
  have I : IV S0 h 464 m20 _ Z f := I
  refine r_new (n1 := 465) rfl I fun Z f I => ?_
  refine r_pr I (by decide +kernel) (by decide) fun Z I => ?_
  have I : IV S0 h 465 m21 _ Z f := I
  refine r_newM (n1 := 526) rfl I fun Z f I => ?_
  refine r_pr I (by decide +kernel) (by decide) fun Z I => ?_
  have I : IV S0 h 526 m22 _ Z f := I
  refine r_new (n1 := 527) rfl I fun Z f I => ?_
  refine r_pr I (by decide +kernel) (by decide) fun Z I => ?_
  have I : IV S0 h 527 m23 _ Z f := I
  refine r_new (n1 := 528) rfl I fun Z f I => ?_
  refine r_pr I (by decide +kernel) (by decide) fun Z I => ?_
  have I : IV S0 h 528 m24 _ Z f := I
  refine r_new (n1 := 529) rfl I fun Z f I => ?_
  refine r_pr I (by decide +kernel) (by decide) fun Z I => ?_
  have I : IV S0 h 529 m25 _ Z f := I
  refine r_new (n1 := 530) rfl I fun Z f I => ?_
  refine r_pr I (by decide +kernel) (by decide) fun Z I => ?_
  have I : IV S0 h 530 m26 _ Z f := I
  refine r_new (n1 := 531) rfl I fun Z f I => ?_
  refine r_pr I (by decide +kernel) (by decide) fun Z I => ?_
  have I : IV S0 h 531 m27 _ Z f := I
  refine r_is I (by decide +kernel) (by decide) ?_
  have C := I.mv.mo
  obtain ⟨f2, e2, F2, o2⟩ := qm_tells (N := N) (f := f) (by omega) C
  rw [Nat.add_zero, e2, axBV_s, m_is C.1]
  obtain ⟨f3, e3, y1, y2, y3, y4, y5⟩ := qm_anew (N := N) hN C F2 q_f0_w
  rw [e3, axBV_s]
  have oo : ∀ x k, h ≤ x → x < h + 531 → f x k = if x = h then (if k = 3 then -1 else 0) else 0 := fun x k p1 p2 => by
    rw [I.2.2.1 x p1 p2]
    rfl
  refine ⟨_, rfl, Z, f3, _, rfl, I.re f3 fun x hx => (y4 x (by omega) (by omega)).trans (o2 x (by omega) (by omega)), y1, y2, y3, ?_, ?_, fun j => ?_, ?_, ?_⟩
  · rw [y5 1 (by decide) (by decide) (by decide) (by decide) (by decide), o2 h (by omega) (by omega), oo h 1 (by omega) (by omega), if_pos rfl]
    rfl
  · rw [y5 3 (by decide) (by decide) (by decide) (by decide) (by decide), o2 h (by omega) (by omega), oo h 3 (by omega) (by omega), if_pos rfl]
    rfl
  · rw [y4 _ (by omega) (by omega), o2 _ (by omega) (by omega), oo _ j (by omega) (by omega), if_neg (by omega)]
  · rw [y4 _ (by omega) (by omega), o2 _ (by omega) (by omega), oo _ 0 (by omega) (by omega), if_neg (by omega)]
  · rw [y4 _ (by omega) (by omega), o2 _ (by omega) (by omega), oo _ 1 (by omega) (by omega), if_neg (by omega)]
def GV0 : GV := (q_msk q_f0, [], q_beg q_f0 (q_f0 0 0), fun _ => -1, 0, 0, fun _ => 0, -1, 0, 0, 0, 0, fun _ _ => 0, 0, fun _ => (0, fun _ => 0, fun _ _ => 0))
theorem GV0.ok : GA GV0 := ⟨by decide, fun j _ => ⟨0, by decide, rfl⟩, by decide, fun w hw => absurd hw (Nat.not_lt_zero _), by decide, fun i hi => absurd hi (Nat.not_lt_zero _)⟩
theorem CW.gc (W : CW h f) (C : CV Z h) (hT : TXz Z) : GC Z h f GV0 := by
  obtain ⟨w1, w2, w3, w4, w5, w6, ⟨w7, w8, w9, w10⟩, w11, w12, w13⟩ := W
  exact ⟨⟨h + 3, h + 9, h + 15, h + 19, h + 23, h + 25, ⟨C.cl, w1.rd, q_fw_msk q_f0_w, w2, Or.inl rfl, w5, q_beg_ok q_f0_w⟩, w3⟩, Or.inl w4, hT, w11, fun j _ => w13 j, w12, w8, w9, w10, w6, fun w hw => absurd hw (Nat.not_lt_zero _), w7, fun i hi => absurd hi (Nat.not_lt_zero _)⟩
theorem MW.gm (W : MW m f) (C : MV Z m) : GM Z m f GV0 := by
  obtain ⟨w1, w2, ⟨w3, w4, w5, w6, w7⟩, w8, w9, w10, w11, w12⟩ := W
  exact ⟨⟨C.mo, w1, q_fw_msk q_f0_w, ⟨w3, by decide, fun k q hq => by cases hq⟩, Or.inl rfl, w2, q_beg_ok q_f0_w, rfl⟩, ⟨w4, by omega, fun _ => 0, fun k hk => absurd hk (Nat.not_lt_zero _), fun i _ hi => absurd rfl hi⟩, w8, fun j _ => w10 j, w9, w6, w11, w12, w5, fun w hw => absurd hw (Nat.not_lt_zero _), w7, fun i hi => absurd hi (Nat.not_lt_zero _)⟩
/-- nothing is laid yet -/
theorem IV.z0 {S : AxS} (e : S.1.1 = some h) : IV S h 0 a00 (fun _ _ => 0) S (axI S) := by
  obtain ⟨⟨p, q⟩, S1⟩ := S
  obtain rfl : p = some h := e
  exact ⟨rfl, fun a ha => absurd ha (Nat.not_lt_zero _), fun x p1 p2 => absurd p2 (by omega), fun _ _ _ => rfl, fun _ _ => ⟨rfl, fun _ => rfl, rfl⟩⟩
/-- the law, from a start where its texts lie below the first free address -/
theorem law_all {L : Nat} {xs : Nat → Int32} {S : AxS} (hN : 20000 < N) (hL : L ≤ 4096) (e : S.1.1 = some h) (hT : ∀ i, i < 26 → axTx S i < h ∧ ∃ j, axL S (axTx S i) = some (6, j) ∧ ax_txt j = ax_txt i) : ∃ S9, F_L_law_ N L xs S = some (1, S9) := by
  have key : QQ (fun r : Int32 × AxS => r.1 = 1) (F_L_law_ N L xs (axM S (axI S))) := by
    unfold F_L_law_
    refine r_new (n1 := 1) rfl (IV.z0 e) fun Z f I => ?_
    have I : IV S h 1 a01 _ Z f := I
    obtain ⟨_, e1, Z1, f1, v1, rfl, I1, W1⟩ := i_X9 (N := N) (by omega) I
    rw [show F_X9_init N (h + 0) (axM Z f) = F_X9_init N h (axM Z f) from rfl, e1, axBV_s]
    have z1 : (axM Z1 f1).1.1 = some (h + 316) := by
      show Z1.1.1 = _
      rw [I1.1]
    have s1 : Z1.1.2 = S.1.2 := by rw [I1.1]
    refine r_new (S0 := axM Z1 f1) (h := h + 316) (Z := Z1) (f := f1) (n1 := 1) rfl (IV.z0 z1) fun Z2 f2 I2 => ?_
    have I2 : IV (axM Z1 f1) (h + 316) 1 m00 _ Z2 f2 := I2
    obtain ⟨_, e3, Z3, f3, v3, rfl, I3, W3⟩ := i_X10 (N := N) (by omega) I2
    rw [show F_X10_init N (h + 316 + 0) (axM Z2 f2) = F_X10_init N (h + 316) (axM Z2 f2) from rfl, e3, axBV_s]
    refine r_new (n1 := 532) rfl I3 fun Z4 f4 I4 => ?_
    have lo : ∀ x, x < h + 316 → axL Z4 x = axL Z1 x ∧ (∀ k, axP Z4 x k = axP Z1 x k) ∧ f4 x = f1 x := I4.2.2.2.2
    have C1 : CV Z4 h := ⟨fun a t ha q => (lo _ (by omega)).1.trans (I1.cv.1 a t ha q), fun a k q ha p => ((lo _ (by omega)).2.1 k).trans (I1.cv.2 a k q ha p)⟩
    have tx : Z4.1.2 = S.1.2 := by
      rw [I4.1]
      exact s1
    have T4 : TXz Z4 := fun i hi => by
      obtain ⟨t1, j, t2, t3⟩ := hT i hi
      have tt : axTx Z4 i = axTx S i := by
        unfold axTx
        rw [tx]
      exact ⟨j, by rw [tt, (lo _ (by omega)).1, (I1.2.2.2.2 _ t1).1, t2], t3⟩
    have G1 : GC Z4 h f1 GV0 := W1.gc C1 T4
    have G1 : CA Z4 h f1 (q_msk q_f0) [] (q_beg q_f0 (q_f0 0 0)) (fun _ => -1) 0 0 (fun _ => 0) (-1) 0 0 0 0 (fun _ _ => 0) 0 (fun _ => (0, fun _ => 0, fun _ _ => 0)) := G1
    have hV0 : VA (q_msk q_f0) 0 (fun _ => 0) 0 (fun _ _ => 0) 0 (fun _ => (0, fun _ => 0, fun _ _ => 0)) := GV0.ok
    have G4 : GC Z4 h f4 GV0 := CA.fr G1 hV0 fun x p1 p2 => (lo x (by omega)).2.2
    have M4 : MV Z4 (h + 316) := ⟨fun a t ha q => I4.L (by omega) ((tn_o (by omega)).trans q), fun a k q ha p => I4.pp (by omega) ((if_neg (by omega)).trans p)⟩
    have ff : ∀ x, h + 316 ≤ x → x ≤ h + 316 + 530 → f4 x = f3 x := fun x p1 p2 => (I4.2.2.1 x p1 (by omega)).trans (I3.2.2.1 x p1 (by omega)).symm
    have M5 : GM Z4 (h + 316) f3 GV0 := W3.gm M4
    have M5 : MA Z4 (h + 316) f3 (q_msk q_f0) [] (q_beg q_f0 (q_f0 0 0)) (fun _ => -1) 0 0 (fun _ => 0) (-1) 0 0 0 0 (fun _ _ => 0) 0 (fun _ => (0, fun _ => 0, fun _ _ => 0)) := M5
    have M6 : GM Z4 (h + 316) f4 GV0 := MA.fr M5 hV0 ff
    have G : GI h (h + 316) (h + 316 + 531) (axM Z4 f4) := ⟨Z4, f4, GV0, rfl, G4, M6, GV0.ok, by omega, by omega, I4.L (by decide) tn_s⟩
    obtain ⟨S9, e9⟩ := law_loop (xs := xs) hN hL 514 0 _ G (by omega) (by omega)
    exact ⟨_, e9, rfl⟩
  obtain ⟨⟨w, S9⟩, e1, e2⟩ := key
  obtain rfl : w = 1 := e2
  exact ⟨S9, e1⟩
end
