def F_X10_tellsNothing_45b (N : Nat) (K45 : Nat → Int32 → AxS → Option (AxS)) (v0 : Nat) (v1 : Int32) (S : AxS) : Option (AxS) :=
  if 12 ≤ v1 then (some S) else (ax_gr S v0 10 13 fun a1 => ax_st S a1 v1 0 fun T2 => K45 v0 (v1 + 1) T2)
def F_X10_tellsNothing_45 (N : Nat)  : Nat → Nat → Int32 → AxS → Option (AxS) := axIter (fun KK => F_X10_tellsNothing_45b N KK) (fun _ _ _ => none)
def F_X10_tellsNothing_2b (N : Nat) (K2 : Nat → Int32 → AxS → Option (AxS)) (v0 : Nat) (v1 : Int32) (S : AxS) : Option (AxS) :=
  if 4 ≤ v1 then (ax_gr S v0 10 11 fun a1 => ax_st S a1 4 100 fun T2 => ax_gr T2 v0 10 11 fun a3 => ax_st T2 a3 5 5 fun T4 => ax_gr T4 v0 10 11 fun a5 => ax_st T4 a5 6 0 fun T6 => F_X10_tellsNothing_45 N  N v0 0 T6) else (ax_gr S v0 10 11 fun a7 => ax_st S a7 v1 0 fun T8 => K2 v0 (v1 + 1) T8)
def F_X10_tellsNothing_2 (N : Nat)  : Nat → Nat → Int32 → AxS → Option (AxS) := axIter (fun KK => F_X10_tellsNothing_2b N KK) (fun _ _ _ => none)
def F_X10_tellsNothing (N : Nat) (v0 : Nat) (S : AxS) : Option (AxS) :=
  F_X10_tellsNothing_2 N  N v0 0 S

def F_X10_thrown (N : Nat) (v0 : Nat) (S : AxS) : Option (Int32 × AxS) :=
  ax_gi S v0 10 0 fun x1 => some (x1, S)

def F_X10_bad_26 (N : Nat)  (v0 : Nat) (S : AxS) : Option (Int32 × AxS) :=
  ax_gi S v0 10 0 fun x1 => if x1 = 0 then (ax_rz 0 (some (0, S))) else (ax_rz 1 (some (1, S)))
def F_X10_bad (N : Nat) (v0 : Nat) (v1 : Int32) (v2 : Int32) (v3 : Int32) (S : AxS) : Option (Int32 × AxS) :=
  if v1 = 0 then (F_X10_bad_26 N  v0 S) else (ax_gi S v0 10 0 fun x1 => if x1 = 0 then (ax_pi S v0 10 0 v2 fun T2 => ax_gr T2 v0 10 10 fun a3 => ax_ld T2 a3 v3 fun x4 => ax_st T2 a3 v3 (x4 + 1) fun T5 => F_X10_bad_26 N  v0 T5) else (F_X10_bad_26 N  v0 S))

def F_X10_in (N : Nat) (v0 : Int32) (v1 : Int32) (v2 : Int32) (S : AxS) : Option (Int32 × AxS) :=
  if v0 < v1 then (ax_rz 0 (some (0, S))) else (if v2 < v0 then (ax_rz 0 (some (0, S))) else (ax_rz 1 (some (1, S))))

def F_X10_less (N : Nat) (v0 : Int32) (v1 : Int32) (S : AxS) : Option (Int32 × AxS) :=
  if v1 ≤ v0 then (some (v1, S)) else (some (v0, S))

def F_X10_more (N : Nat) (v0 : Int32) (v1 : Int32) (S : AxS) : Option (Int32 × AxS) :=
  if v0 ≤ v1 then (some (v1, S)) else (some (v0, S))

def F_X10_has (N : Nat) (v0 : Int32) (v1 : Int32) (S : AxS) : Option (Int32 × AxS) :=
  if ((v0 >>> (v1 &&& 31)) &&& 1) = 1 then (ax_rz 1 (some (1, S))) else (ax_rz 0 (some (0, S)))

def F_X10_feed_76 (N : Nat) (K23 : Nat → Int32 → Int32 → Int32 → Int32 → Int32 → Int32 → AxS → Option (Int32 × AxS)) (v0 : Nat) (v1 : Int32) (v2 : Int32) (v3 : Int32) (v4 : Int32) (v5 : Int32) (v6 : Int32) (w0 : Int32) (S : AxS) : Option (Int32 × AxS) :=
  ax_gr S v0 10 9 fun a1 => ax_gi S v0 10 1 fun x2 => ax_ne 4 <| ax_st S a1 x2 ((w0 >>> ((24 - (8 * (v6 - v6 / 4 * 4))) &&& 31)) &&& 255) fun T3 => ax_gi T3 v0 10 1 fun x4 => ax_pi T3 v0 10 1 (x4 + 1) fun T5 => K23 v0 v1 v2 v3 v4 v5 (v6 + 1) T5
def F_X10_feed_23b (N : Nat) (K23 : Nat → Int32 → Int32 → Int32 → Int32 → Int32 → Int32 → AxS → Option (Int32 × AxS)) (v0 : Nat) (v1 : Int32) (v2 : Int32) (v3 : Int32) (v4 : Int32) (v5 : Int32) (v6 : Int32) (S : AxS) : Option (Int32 × AxS) :=
  if 20 ≤ v6 then (ax_gi S v0 10 1 fun x1 => some (x1, S)) else (if 4 ≤ v6 then (if 8 ≤ v6 then (if 12 ≤ v6 then (if 16 ≤ v6 then (F_X10_feed_76 N K23 v0 v1 v2 v3 v4 v5 v6 v5 S) else (F_X10_feed_76 N K23 v0 v1 v2 v3 v4 v5 v6 v4 S)) else (F_X10_feed_76 N K23 v0 v1 v2 v3 v4 v5 v6 v3 S)) else (F_X10_feed_76 N K23 v0 v1 v2 v3 v4 v5 v6 v2 S)) else (F_X10_feed_76 N K23 v0 v1 v2 v3 v4 v5 v6 v1 S))
def F_X10_feed_23 (N : Nat)  : Nat → Nat → Int32 → Int32 → Int32 → Int32 → Int32 → Int32 → AxS → Option (Int32 × AxS) := axIter (fun KK => F_X10_feed_23b N KK) (fun _ _ _ _ _ _ _ _ => none)
def F_X10_feed (N : Nat) (v0 : Nat) (v1 : Int32) (v2 : Int32) (v3 : Int32) (v4 : Int32) (v5 : Int32) (S : AxS) : Option (Int32 × AxS) :=
  ax_pi S v0 10 0 0 fun T1 => ax_gi T1 v0 10 1 fun x2 => if (x2 + 20) ≤ 600 then (F_X10_feed_23 N  N v0 v1 v2 v3 v4 v5 0 T1) else (some ((-1), T1))

def F_X10_byteAt (N : Nat) (v0 : Nat) (v1 : Int32) (S : AxS) : Option (Int32 × AxS) :=
  ax_gi S v0 10 2 fun x1 => if v1 < x1 then (ax_gr S v0 10 9 fun a2 => ax_ld S a2 v1 fun x3 => some (x3, S)) else (some ((-1), S))

def F_X10_blanks_0b (N : Nat) (K0 : Nat → AxS → Option (AxS)) (v0 : Nat) (S : AxS) : Option (AxS) :=
  ax_gi S v0 10 4 fun x1 => ax_is S v0 10 <| axB (F_X10_byteAt N v0 x1 S) fun x4 T3 => if x4 = 32 then (ax_gi T3 v0 10 4 fun x5 => ax_pi T3 v0 10 4 (x5 + 1) fun T6 => K0 v0 T6) else (some T3)
def F_X10_blanks_0 (N : Nat)  : Nat → Nat → AxS → Option (AxS) := axIter (fun KK => F_X10_blanks_0b N KK) (fun _ _ => none)
def F_X10_blanks (N : Nat) (v0 : Nat) (S : AxS) : Option (AxS) :=
  F_X10_blanks_0 N  N v0 S

def F_X10_wrong (N : Nat) (v0 : Nat) (v1 : Int32) (v2 : Int32) (S : AxS) : Option (AxS) :=
  ax_gi S v0 10 5 fun x1 => if x1 = 0 then (ax_pi S v0 10 5 v1 fun T2 => ax_pi T2 v0 10 6 v2 fun T3 => some T3) else (some S)

def F_X10_isDigit (N : Nat) (v0 : Int32) (S : AxS) : Option (Int32 × AxS) :=
  if v0 < 48 then (ax_rz 0 (some (0, S))) else (if 57 < v0 then (ax_rz 0 (some (0, S))) else (ax_rz 1 (some (1, S))))

def F_X10_isSmall (N : Nat) (v0 : Int32) (S : AxS) : Option (Int32 × AxS) :=
  if v0 < 97 then (ax_rz 0 (some (0, S))) else (if 122 < v0 then (ax_rz 0 (some (0, S))) else (ax_rz 1 (some (1, S))))

def F_X10_number_122 (N : Nat)  (v0 : Nat) (v4 : Int32) (S : AxS) : Option (Int32 × AxS) :=
  ax_gi S v0 10 5 fun x1 => if x1 = 0 then (some (v4, S)) else (some (0, S))
def F_X10_number_91 (N : Nat) (K44 : Nat → Int32 → Int32 → Int32 → Int32 → AxS → Option (Int32 × AxS)) (v0 : Nat) (v1 : Int32) (v2 : Int32) (v3 : Int32) (w0 : Int32) (S : AxS) : Option (Int32 × AxS) :=
  ax_gi S v0 10 4 fun x1 => ax_pi S v0 10 4 (x1 + 1) fun T2 => K44 v0 v1 v2 v3 w0 T2
def F_X10_number_44b (N : Nat) (K44 : Nat → Int32 → Int32 → Int32 → Int32 → AxS → Option (Int32 × AxS)) (v0 : Nat) (v1 : Int32) (v2 : Int32) (v3 : Int32) (v4 : Int32) (S : AxS) : Option (Int32 × AxS) :=
  ax_gi S v0 10 4 fun x1 => ax_is S v0 10 <| axB (F_X10_byteAt N v0 x1 S) fun x4 T3 => axB (F_X10_isDigit N x4 T3) fun x6 T5 => if x6 = 0 then (axB (F_X10_in N v4 v1 v2 T5) fun x8 T7 => if x8 = 0 then (ax_is T7 v0 10 <| axBV (F_X10_wrong N v0 2 v3 T7) fun T10 => F_X10_number_122 N  v0 v4 T10) else (F_X10_number_122 N  v0 v4 T7)) else (ax_gi T5 v0 10 4 fun x12 => ax_is T5 v0 10 <| axB (F_X10_byteAt N v0 x12 T5) fun x15 T14 => if (((10 * v4) + x15) - 48) ≤ 100000 then (F_X10_number_91 N K44 v0 v1 v2 v3 (((10 * v4) + x15) - 48) T14) else (F_X10_number_91 N K44 v0 v1 v2 v3 100000 T14))
def F_X10_number_44 (N : Nat)  : Nat → Nat → Int32 → Int32 → Int32 → Int32 → AxS → Option (Int32 × AxS) := axIter (fun KK => F_X10_number_44b N KK) (fun _ _ _ _ _ _ => none)
def F_X10_number (N : Nat) (v0 : Nat) (v1 : Int32) (v2 : Int32) (S : AxS) : Option (Int32 × AxS) :=
  ax_gi S v0 10 5 fun x1 => if x1 = 0 then (ax_is S v0 10 <| axBV (F_X10_blanks N v0 S) fun T3 => ax_gi T3 v0 10 4 fun x5 => ax_gi T3 v0 10 4 fun x6 => ax_is T3 v0 10 <| axB (F_X10_byteAt N v0 x6 T3) fun x9 T8 => axB (F_X10_isDigit N x9 T8) fun x11 T10 => if x11 = 0 then (ax_gi T10 v0 10 4 fun x12 => ax_is T10 v0 10 <| axBV (F_X10_wrong N v0 1 x12 T10) fun T14 => F_X10_number_44 N  N v0 v1 v2 x5 0 T14) else (F_X10_number_44 N  N v0 v1 v2 x5 0 T10)) else (some (0, S))

def F_X10_wordHere_57 (N : Nat) (K8 : Nat → Int64 → Int32 → AxS → Option (Int64 × AxS)) (v0 : Nat) (v3 : Int32) (w0 : Int64) (S : AxS) : Option (Int64 × AxS) :=
  K8 v0 w0 (v3 + 1) S
def F_X10_wordHere_8b (N : Nat) (K8 : Nat → Int64 → Int32 → AxS → Option (Int64 × AxS)) (v0 : Nat) (v1 : Int64) (v3 : Int32) (S : AxS) : Option (Int64 × AxS) :=
  ax_gi S v0 10 4 fun x1 => ax_is S v0 10 <| axB (F_X10_byteAt N v0 (x1 + v3) S) fun x4 T3 => axB (F_X10_isSmall N x4 T3) fun x6 T5 => if x6 = 0 then (if v3 ≤ 7 then (some (v1, T5)) else (some ((-1), T5))) else (if 7 ≤ v3 then (F_X10_wordHere_57 N K8 v0 v3 v1 T5) else (ax_gi T5 v0 10 4 fun x7 => ax_is T5 v0 10 <| axB (F_X10_byteAt N v0 (x7 + v3) T5) fun x10 T9 => F_X10_wordHere_57 N K8 v0 v3 ((((27 * v1) + (Int32.toInt64 x10)) - 97) + 1) T9))
def F_X10_wordHere_8 (N : Nat)  : Nat → Nat → Int64 → Int32 → AxS → Option (Int64 × AxS) := axIter (fun KK => F_X10_wordHere_8b N KK) (fun _ _ _ _ => none)
def F_X10_wordHere (N : Nat) (v0 : Nat) (S : AxS) : Option (Int64 × AxS) :=
  ax_is S v0 10 <| axBV (F_X10_blanks N v0 S) fun T2 => F_X10_wordHere_8 N  N v0 0 0 T2

def F_X10_seven_80 (N : Nat)  (v6 : Int32) (w0 : Int64) (S : AxS) : Option (Int64 × AxS) :=
  if v6 = 0 then (some (w0, S)) else (some ((27 * w0) + (Int32.toInt64 v6), S))
def F_X10_seven_58 (N : Nat)  (v5 : Int32) (v6 : Int32) (w0 : Int64) (S : AxS) : Option (Int64 × AxS) :=
  if v5 = 0 then (F_X10_seven_80 N  v6 w0 S) else (F_X10_seven_80 N  v6 ((27 * w0) + (Int32.toInt64 v5)) S)
def F_X10_seven_36 (N : Nat)  (v4 : Int32) (v5 : Int32) (v6 : Int32) (w0 : Int64) (S : AxS) : Option (Int64 × AxS) :=
  if v4 = 0 then (F_X10_seven_58 N  v5 v6 w0 S) else (F_X10_seven_58 N  v5 v6 ((27 * w0) + (Int32.toInt64 v4)) S)
def F_X10_seven (N : Nat) (v0 : Int32) (v1 : Int32) (v2 : Int32) (v3 : Int32) (v4 : Int32) (v5 : Int32) (v6 : Int32) (S : AxS) : Option (Int64 × AxS) :=
  if v3 = 0 then (F_X10_seven_36 N  v4 v5 v6 ((27 * ((27 * (Int32.toInt64 v0)) + (Int32.toInt64 v1))) + (Int32.toInt64 v2)) S) else (F_X10_seven_36 N  v4 v5 v6 ((27 * ((27 * ((27 * (Int32.toInt64 v0)) + (Int32.toInt64 v1))) + (Int32.toInt64 v2))) + (Int32.toInt64 v3)) S)

def F_X10_isWord (N : Nat) (v0 : Nat) (v1 : Int32) (v2 : Int32) (v3 : Int32) (v4 : Int32) (v5 : Int32) (v6 : Int32) (v7 : Int32) (S : AxS) : Option (Int32 × AxS) :=
  ax_gi S v0 10 5 fun x1 => if x1 = 0 then (ax_is S v0 10 <| axB (F_X10_wordHere N v0 S) fun x4 T3 => axB (F_X10_seven N v1 v2 v3 v4 v5 v6 v7 T3) fun x6 T5 => if (lg_cmp x4 x6) = 0 then (ax_rz 1 (some (1, T5))) else (ax_rz 0 (some (0, T5)))) else (ax_rz 0 (some (0, S)))

def F_X10_skipWord_0b (N : Nat) (K0 : Nat → AxS → Option (AxS)) (v0 : Nat) (S : AxS) : Option (AxS) :=
  ax_gi S v0 10 4 fun x1 => ax_is S v0 10 <| axB (F_X10_byteAt N v0 x1 S) fun x4 T3 => axB (F_X10_isSmall N x4 T3) fun x6 T5 => if x6 = 0 then (some T5) else (ax_gi T5 v0 10 4 fun x7 => ax_pi T5 v0 10 4 (x7 + 1) fun T8 => K0 v0 T8)
def F_X10_skipWord_0 (N : Nat)  : Nat → Nat → AxS → Option (AxS) := axIter (fun KK => F_X10_skipWord_0b N KK) (fun _ _ => none)
def F_X10_skipWord (N : Nat) (v0 : Nat) (S : AxS) : Option (AxS) :=
  F_X10_skipWord_0 N  N v0 S

def F_X10_takes (N : Nat) (v0 : Nat) (v1 : Int32) (v2 : Int32) (v3 : Int32) (v4 : Int32) (v5 : Int32) (v6 : Int32) (v7 : Int32) (S : AxS) : Option (Int32 × AxS) :=
  ax_is S v0 10 <| axB (F_X10_isWord N v0 v1 v2 v3 v4 v5 v6 v7 S) fun x3 T2 => if x3 = 0 then (ax_rz x3 (some (x3, T2))) else (ax_is T2 v0 10 <| axBV (F_X10_skipWord N v0 T2) fun T5 => ax_rz x3 (some (x3, T5)))

def F_X10_sign (N : Nat) (v0 : Nat) (v1 : Int32) (S : AxS) : Option (AxS) :=
  ax_gi S v0 10 5 fun x1 => if x1 = 0 then (ax_is S v0 10 <| axBV (F_X10_blanks N v0 S) fun T3 => ax_gi T3 v0 10 4 fun x5 => ax_is T3 v0 10 <| axB (F_X10_byteAt N v0 x5 T3) fun x8 T7 => if x8 = v1 then (ax_gi T7 v0 10 4 fun x13 => ax_pi T7 v0 10 4 (x13 + 1) fun T14 => some T14) else (ax_gi T7 v0 10 4 fun x9 => ax_is T7 v0 10 <| axBV (F_X10_wrong N v0 1 x9 T7) fun T11 => some T11)) else (some S)

def F_X10_takesSign_30 (N : Nat)  (v0 : Nat) (w0 : Int32) (S : AxS) : Option (Int32 × AxS) :=
  if w0 = 0 then (ax_rz w0 (some (w0, S))) else (ax_gi S v0 10 4 fun x1 => ax_pi S v0 10 4 (x1 + 1) fun T2 => ax_rz w0 (some (w0, T2)))
def F_X10_takesSign (N : Nat) (v0 : Nat) (v1 : Int32) (S : AxS) : Option (Int32 × AxS) :=
  ax_gi S v0 10 5 fun x1 => if x1 = 0 then (ax_is S v0 10 <| axBV (F_X10_blanks N v0 S) fun T3 => ax_gi T3 v0 10 4 fun x5 => ax_is T3 v0 10 <| axB (F_X10_byteAt N v0 x5 T3) fun x8 T7 => if x8 = v1 then (F_X10_takesSign_30 N  v0 1 T7) else (F_X10_takesSign_30 N  v0 0 T7)) else (ax_rz 0 (some (0, S)))

def F_X10_starts (N : Nat) (v0 : Nat) (v1 : Int32) (S : AxS) : Option (AxS) :=
  ax_pi S v0 10 1 0 fun T1 => ax_pi T1 v0 10 2 v1 fun T2 => ax_pi T2 v0 10 4 0 fun T3 => ax_pi T3 v0 10 5 0 fun T4 => ax_pi T4 v0 10 6 ((-1)) fun T5 => ax_pi T5 v0 10 7 0 fun T6 => ax_pi T6 v0 10 8 0 fun T7 => ax_is T7 v0 10 <| axBV (F_X10_blanks N v0 T7) fun T9 => some T9

def F_X10_ends (N : Nat) (v0 : Nat) (S : AxS) : Option (Int32 × AxS) :=
  ax_gi S v0 10 6 fun x1 => ax_pi S v0 10 3 x1 fun T2 => ax_gi T2 v0 10 5 fun x3 => some (x3 - 10, T2)

def F_X10_kindHere (N : Nat) (v0 : Nat) (S : AxS) : Option (Int32 × AxS) :=
  ax_is S v0 10 <| axB (F_X10_isWord N v0 22 9 12 12 1 7 5 S) fun x3 T2 => if x3 = 0 then (ax_is T2 v0 10 <| axB (F_X10_isWord N v0 3 5 12 12 0 0 0 T2) fun x6 T5 => if x6 = 0 then (ax_is T5 v0 10 <| axB (F_X10_isWord N v0 13 15 14 11 0 0 0 T5) fun x9 T8 => if x9 = 0 then (ax_is T8 v0 10 <| axB (F_X10_isWord N v0 8 5 9 18 0 0 0 T8) fun x12 T11 => if x12 = 0 then (ax_is T11 v0 10 <| axB (F_X10_isWord N v0 15 23 5 0 0 0 0 T11) fun x15 T14 => if x15 = 0 then (ax_is T14 v0 10 <| axB (F_X10_isWord N v0 18 1 20 5 0 0 0 T14) fun x18 T17 => if x18 = 0 then (ax_is T17 v0 10 <| axB (F_X10_isWord N v0 3 8 5 19 20 0 0 T17) fun x21 T20 => if x21 = 0 then (ax_is T20 v0 10 <| axB (F_X10_isWord N v0 8 1 18 22 5 19 20 T20) fun x24 T23 => if x24 = 0 then (some ((-1), T23)) else (some (7, T23))) else (some (6, T20))) else (some (5, T17))) else (some (4, T14))) else (some (3, T11))) else (some (2, T8))) else (some (1, T5))) else (some (0, T2))

def F_X10_isFull_57 (N : Nat)  (v1 : Int32) (v2 : Int32) (S : AxS) : Option (Int32 × AxS) :=
  if v1 = 3 then (if v2 = 4 then (ax_rz 1 (some (1, S))) else (ax_rz 0 (some (0, S)))) else (ax_rz 0 (some (0, S)))
def F_X10_isFull_37 (N : Nat)  (v0 : Nat) (v1 : Int32) (v2 : Int32) (S : AxS) : Option (Int32 × AxS) :=
  if v1 = 2 then (ax_gr S v0 10 11 fun a1 => ax_ld S a1 1 fun x2 => axB (F_X10_less N 8 x2 S) fun x4 T3 => if v2 = x4 then (ax_rz 1 (some (1, T3))) else (F_X10_isFull_57 N  v1 v2 T3)) else (F_X10_isFull_57 N  v1 v2 S)
def F_X10_isFull_26 (N : Nat)  (v0 : Nat) (v1 : Int32) (v2 : Int32) (S : AxS) : Option (Int32 × AxS) :=
  if v1 = 1 then (if v2 = 8 then (ax_rz 1 (some (1, S))) else (F_X10_isFull_37 N  v0 v1 v2 S)) else (F_X10_isFull_37 N  v0 v1 v2 S)
def F_X10_isFull_15 (N : Nat)  (v0 : Nat) (v1 : Int32) (w0 : Int32) (S : AxS) : Option (Int32 × AxS) :=
  if v1 = 0 then (if w0 = 6 then (ax_rz 1 (some (1, S))) else (F_X10_isFull_26 N  v0 v1 w0 S)) else (F_X10_isFull_26 N  v0 v1 w0 S)
def F_X10_isFull (N : Nat) (v0 : Nat) (v1 : Int32) (S : AxS) : Option (Int32 × AxS) :=
  if 4 ≤ v1 then (F_X10_isFull_15 N  v0 v1 0 S) else (ax_gr S v0 10 11 fun a1 => ax_ld S a1 v1 fun x2 => F_X10_isFull_15 N  v0 v1 x2 S)

def F_X10_mostOf (N : Nat) (v0 : Int32) (S : AxS) : Option (Int32 × AxS) :=
  if v0 = 0 then (some (20, S)) else (if v0 = 1 then (some (9, S)) else (if v0 = 2 then (some (40, S)) else (if v0 = 3 then (some (99, S)) else (if v0 = 4 then (some (9999, S)) else (if v0 = 5 then (some (20, S)) else (some (999, S)))))))

def F_X10_clause_187 (N : Nat)  (v0 : Nat) (S : AxS) : Option (AxS) :=
  ax_is S v0 10 <| axBV (F_X10_sign N v0 59 S) fun T2 => some T2
def F_X10_clause_151 (N : Nat)  (v0 : Nat) (v1 : Int32) (v2 : Int32) (S : AxS) : Option (AxS) :=
  ax_gi S v0 10 5 fun x1 => if x1 = 0 then (if 4 ≤ v1 then (F_X10_clause_187 N  v0 S) else (ax_gr S v0 10 15 fun a2 => ax_ldr S a2 v1 fun a3 => ax_gr S v0 10 11 fun a4 => ax_ld S a4 v1 fun x5 => ax_st S a3 x5 v2 fun T6 => ax_gr T6 v0 10 11 fun a7 => ax_ld T6 a7 v1 fun x8 => ax_st T6 a7 v1 (x8 + 1) fun T9 => F_X10_clause_187 N  v0 T9)) else (F_X10_clause_187 N  v0 S)
def F_X10_clause_124 (N : Nat)  (v0 : Nat) (v1 : Int32) (w0 : Int32) (w1 : Nat) (S : AxS) : Option (AxS) :=
  axB (F_X10_mostOf N v1 S) fun x2 T1 => ax_is T1 w1 10 <| axB (F_X10_number N w1 w0 x2 T1) fun x5 T4 => ax_gi T4 v0 10 5 fun x6 => if x6 = 0 then (if v1 ≤ 3 then (F_X10_clause_151 N  v0 v1 x5 T4) else (ax_gr T4 v0 10 11 fun a7 => ax_st T4 a7 v1 x5 fun T8 => F_X10_clause_151 N  v0 v1 x5 T8)) else (F_X10_clause_151 N  v0 v1 x5 T4)
def F_X10_clause_119 (N : Nat)  (v0 : Nat) (v1 : Int32) (w0 : Nat) (S : AxS) : Option (AxS) :=
  F_X10_clause_124 N  v0 v1 1 w0 S
def F_X10_clause_106 (N : Nat)  (v0 : Nat) (S : AxS) : Option (AxS) :=
  F_X10_clause_187 N  v0 S
def F_X10_clause_48 (N : Nat)  (v0 : Nat) (v1 : Int32) (S : AxS) : Option (AxS) :=
  ax_gi S v0 10 5 fun x1 => if x1 = 0 then (ax_is S v0 10 <| axBV (F_X10_skipWord N v0 S) fun T3 => ax_gi T3 v0 10 7 fun x5 => ax_pi T3 v0 10 7 (x5 + 1) fun T6 => if v1 = 7 then (ax_is T6 v0 10 <| axB (F_X10_number N v0 0 11 T6) fun x9 T8 => ax_is T8 v0 10 <| axB (F_X10_number N v0 0 99 T8) fun x12 T11 => ax_gi T11 v0 10 5 fun x13 => if x13 = 0 then (ax_gr T11 v0 10 13 fun a14 => ax_st T11 a14 x9 x12 fun T15 => F_X10_clause_106 N  v0 T15) else (F_X10_clause_106 N  v0 T11)) else (if v1 = 0 then (F_X10_clause_119 N  v0 v1 v0 T6) else (if v1 = 3 then (F_X10_clause_119 N  v0 v1 v0 T6) else (F_X10_clause_124 N  v0 v1 0 v0 T6)))) else (some S)
def F_X10_clause_39 (N : Nat)  (v0 : Nat) (v1 : Int32) (S : AxS) : Option (AxS) :=
  ax_gi S v0 10 4 fun x1 => ax_is S v0 10 <| axBV (F_X10_wrong N v0 3 x1 S) fun T3 => F_X10_clause_48 N  v0 v1 T3
def F_X10_clause (N : Nat) (v0 : Nat) (S : AxS) : Option (AxS) :=
  ax_is S v0 10 <| axB (F_X10_kindHere N v0 S) fun x3 T2 => if x3 = ((-1)) then (ax_gi T2 v0 10 4 fun x8 => ax_is T2 v0 10 <| axBV (F_X10_wrong N v0 1 x8 T2) fun T10 => F_X10_clause_48 N  v0 x3 T10) else (ax_gi T2 v0 10 7 fun x4 => if x4 = 60 then (F_X10_clause_39 N  v0 x3 T2) else (ax_is T2 v0 10 <| axB (F_X10_isFull N v0 x3 T2) fun x7 T6 => if x7 = 0 then (F_X10_clause_48 N  v0 x3 T6) else (F_X10_clause_39 N  v0 x3 T6)))

def F_X10_lays_10b (N : Nat) (K2 : Nat → Nat → Int32 → Int32 → AxS → Option (AxS)) (K10 : Nat → Nat → Int32 → Int32 → Int32 → AxS → Option (AxS)) (v0 : Nat) (v1 : Nat) (v2 : Int32) (v3 : Int32) (v4 : Int32) (S : AxS) : Option (AxS) :=
  ax_ldr S v1 v3 fun a1 => ax_len S a1 fun x2 => if x2 ≤ v4 then (K2 v0 v1 v2 (v3 + 1) S) else (ax_ldr S v1 v3 fun a3 => ax_ldr S v0 v3 fun a4 => ax_ld S a4 v4 fun x5 => ax_st S a3 v4 x5 fun T6 => K10 v0 v1 v2 v3 (v4 + 1) T6)
def F_X10_lays_10 (N : Nat) (K2 : Nat → Nat → Int32 → Int32 → AxS → Option (AxS)) : Nat → Nat → Nat → Int32 → Int32 → Int32 → AxS → Option (AxS) := axIter (fun KK => F_X10_lays_10b N K2 KK) (fun _ _ _ _ _ _ => none)
def F_X10_lays_2b (N : Nat) (K2 : Nat → Nat → Int32 → Int32 → AxS → Option (AxS)) (v0 : Nat) (v1 : Nat) (v2 : Int32) (v3 : Int32) (S : AxS) : Option (AxS) :=
  if v2 ≤ v3 then (some S) else (F_X10_lays_10 N K2 N v0 v1 v2 v3 0 S)
def F_X10_lays_2 (N : Nat)  : Nat → Nat → Nat → Int32 → Int32 → AxS → Option (AxS) := axIter (fun KK => F_X10_lays_2b N KK) (fun _ _ _ _ _ => none)
def F_X10_lays (N : Nat) (v0 : Nat) (v1 : Nat) (v2 : Int32) (S : AxS) : Option (AxS) :=
  F_X10_lays_2 N  N v0 v1 v2 0 S

def F_X10_begins_34b (N : Nat) (K34 : Nat → Int32 → AxS → Option (AxS)) (v1 : Nat) (v3 : Int32) (S : AxS) : Option (AxS) :=
  if 8 ≤ v3 then (some S) else (ax_st S v1 (13 + v3) v3 fun T1 => K34 v1 (v3 + 1) T1)
def F_X10_begins_34 (N : Nat)  : Nat → Nat → Int32 → AxS → Option (AxS) := axIter (fun KK => F_X10_begins_34b N KK) (fun _ _ _ => none)
def F_X10_begins_2b (N : Nat) (K2 : Nat → Nat → Int32 → Int32 → AxS → Option (AxS)) (v0 : Nat) (v1 : Nat) (v2 : Int32) (v3 : Int32) (S : AxS) : Option (AxS) :=
  if 29 ≤ v3 then (ax_st S v1 0 v2 fun T1 => ax_gr T1 v0 10 12 fun a2 => ax_ld T1 a2 6 fun x3 => ax_st T1 v1 1 x3 fun T4 => F_X10_begins_34 N  N v1 0 T4) else (ax_st S v1 v3 0 fun T5 => K2 v0 v1 v2 (v3 + 1) T5)
def F_X10_begins_2 (N : Nat)  : Nat → Nat → Nat → Int32 → Int32 → AxS → Option (AxS) := axIter (fun KK => F_X10_begins_2b N KK) (fun _ _ _ _ _ => none)
def F_X10_begins (N : Nat) (v0 : Nat) (v1 : Nat) (v2 : Int32) (S : AxS) : Option (AxS) :=
  F_X10_begins_2 N  N v0 v1 v2 0 S

def F_X10_beginsAnew_28b (N : Nat) (K28 : Nat → Int32 → AxS → Option (AxS)) (v0 : Nat) (v1 : Int32) (S : AxS) : Option (AxS) :=
  if 12 ≤ v1 then (ax_gr S v0 10 15 fun a1 => ax_gr S v0 10 16 fun a2 => axBV (F_X10_lays N a1 a2 4 S) fun T3 => ax_gr T3 v0 10 27 fun a5 => ax_gr T3 v0 10 12 fun a6 => ax_ld T3 a6 4 fun x7 => ax_is T3 v0 10 <| axBV (F_X10_begins N v0 a5 x7 T3) fun T9 => ax_pi T9 v0 10 17 0 fun T11 => ax_pi T11 v0 10 31 0 fun T12 => ax_pi T12 v0 10 32 0 fun T13 => ax_pi T13 v0 10 33 0 fun T14 => ax_pi T14 v0 10 34 0 fun T15 => some T15) else (ax_gr S v0 10 14 fun a16 => ax_gr S v0 10 13 fun a17 => ax_ld S a17 v1 fun x18 => ax_st S a16 v1 x18 fun T19 => K28 v0 (v1 + 1) T19)
def F_X10_beginsAnew_28 (N : Nat)  : Nat → Nat → Int32 → AxS → Option (AxS) := axIter (fun KK => F_X10_beginsAnew_28b N KK) (fun _ _ _ => none)
def F_X10_beginsAnew_2b (N : Nat) (K2 : Nat → Int32 → AxS → Option (AxS)) (v0 : Nat) (v1 : Int32) (S : AxS) : Option (AxS) :=
  if 7 ≤ v1 then (F_X10_beginsAnew_28 N  N v0 0 S) else (ax_gr S v0 10 12 fun a1 => ax_gr S v0 10 11 fun a2 => ax_ld S a2 v1 fun x3 => ax_st S a1 v1 x3 fun T4 => K2 v0 (v1 + 1) T4)
def F_X10_beginsAnew_2 (N : Nat)  : Nat → Nat → Int32 → AxS → Option (AxS) := axIter (fun KK => F_X10_beginsAnew_2b N KK) (fun _ _ _ => none)
def F_X10_beginsAnew (N : Nat) (v0 : Nat) (S : AxS) : Option (AxS) :=
  F_X10_beginsAnew_2 N  N v0 0 S

def F_X10_abbey_71 (N : Nat)  (v0 : Nat) (S : AxS) : Option (Int32 × AxS) :=
  ax_gi S v0 10 5 fun x1 => if x1 = 0 then (ax_pi S v0 10 3 ((-1)) fun T2 => ax_is T2 v0 10 <| axBV (F_X10_beginsAnew N v0 T2) fun T4 => ax_gr T4 v0 10 12 fun a6 => ax_ld T4 a6 2 fun x7 => some (x7, T4)) else (ax_is S v0 10 <| axB (F_X10_ends N v0 S) fun x10 T9 => some (x10, T9))
def F_X10_abbey_42b (N : Nat) (K42 : Nat → AxS → Option (Int32 × AxS)) (v0 : Nat) (S : AxS) : Option (Int32 × AxS) :=
  ax_gi S v0 10 5 fun x1 => if x1 = 0 then (ax_gi S v0 10 4 fun x2 => ax_gi S v0 10 2 fun x3 => if x3 ≤ x2 then (F_X10_abbey_71 N  v0 S) else (ax_is S v0 10 <| axBV (F_X10_clause N v0 S) fun T5 => ax_is T5 v0 10 <| axBV (F_X10_blanks N v0 T5) fun T8 => K42 v0 T8)) else (F_X10_abbey_71 N  v0 S)
def F_X10_abbey_42 (N : Nat)  : Nat → Nat → AxS → Option (Int32 × AxS) := axIter (fun KK => F_X10_abbey_42b N KK) (fun _ _ => none)
def F_X10_abbey_23 (N : Nat)  (v0 : Nat) (v1 : Int32) (w0 : Int32) (w1 : Nat) (S : AxS) : Option (Int32 × AxS) :=
  ax_is S w1 10 <| axB (F_X10_bad N w1 w0 1 1 S) fun x3 T2 => if x3 = 0 then (ax_is T2 v0 10 <| axBV (F_X10_starts N v0 v1 T2) fun T5 => ax_is T5 v0 10 <| axBV (F_X10_tellsNothing N v0 T5) fun T8 => F_X10_abbey_42 N  N v0 T8) else (some (0, T2))
def F_X10_abbey (N : Nat) (v0 : Nat) (v1 : Int32) (S : AxS) : Option (Int32 × AxS) :=
  ax_pi S v0 10 0 0 fun T1 => ax_gi T1 v0 10 1 fun x2 => axB (F_X10_in N v1 0 x2 T1) fun x4 T3 => if x4 = 0 then (F_X10_abbey_23 N  v0 v1 1 v0 T3) else (F_X10_abbey_23 N  v0 v1 0 v0 T3)

def F_X10_copies_2b (N : Nat) (K2 : Nat → Nat → Int32 → AxS → Option (AxS)) (v0 : Nat) (v1 : Nat) (v2 : Int32) (S : AxS) : Option (AxS) :=
  if 29 ≤ v2 then (some S) else (ax_ld S v0 v2 fun x1 => ax_st S v1 v2 x1 fun T2 => K2 v0 v1 (v2 + 1) T2)
def F_X10_copies_2 (N : Nat)  : Nat → Nat → Nat → Int32 → AxS → Option (AxS) := axIter (fun KK => F_X10_copies_2b N KK) (fun _ _ _ _ => none)
def F_X10_copies (N : Nat) (v0 : Nat) (v1 : Nat) (S : AxS) : Option (AxS) :=
  F_X10_copies_2 N  N v0 v1 0 S

def F_X10_notes (N : Nat) (v0 : Nat) (v1 : Int32) (v2 : Int32) (S : AxS) : Option (AxS) :=
  ax_gi S v0 10 5 fun x1 => if x1 = 0 then (ax_gr S v0 10 20 fun a2 => ax_gi S v0 10 18 fun x3 => ax_ldr S a2 x3 fun a4 => ax_st S a4 0 v1 fun T5 => ax_gr T5 v0 10 20 fun a6 => ax_gi T5 v0 10 18 fun x7 => ax_ldr T5 a6 x7 fun a8 => ax_st T5 a8 1 v2 fun T9 => ax_gi T9 v0 10 18 fun x10 => ax_pi T9 v0 10 18 (x10 + 1) fun T11 => some T11) else (some S)

def F_X10_opensOne_45 (N : Nat)  (v0 : Nat) (S : AxS) : Option (Int32 × AxS) :=
  ax_gi S v0 10 5 fun x1 => if x1 = 0 then (ax_rz 1 (some (1, S))) else (ax_rz 0 (some (0, S)))
def F_X10_opensOne_28 (N : Nat)  (v0 : Nat) (S : AxS) : Option (Int32 × AxS) :=
  ax_gi S v0 10 5 fun x1 => if x1 = 0 then (ax_gi S v0 10 8 fun x2 => ax_pi S v0 10 8 (x2 + 1) fun T3 => F_X10_opensOne_45 N  v0 T3) else (F_X10_opensOne_45 N  v0 S)
def F_X10_opensOne (N : Nat) (v0 : Nat) (S : AxS) : Option (Int32 × AxS) :=
  ax_gi S v0 10 5 fun x1 => if x1 = 0 then (ax_gi S v0 10 8 fun x2 => if x2 = 6 then (ax_gi S v0 10 4 fun x3 => ax_is S v0 10 <| axBV (F_X10_wrong N v0 3 x3 S) fun T5 => F_X10_opensOne_45 N  v0 T5) else (F_X10_opensOne_28 N  v0 S)) else (F_X10_opensOne_28 N  v0 S)

def F_X10_knownHere (N : Nat) (v0 : Nat) (S : AxS) : Option (Int32 × AxS) :=
  ax_is S v0 10 <| axB (F_X10_takes N v0 1 19 11 19 0 0 0 S) fun x3 T2 => if x3 = 0 then (ax_is T2 v0 10 <| axB (F_X10_takes N v0 16 1 9 4 0 0 0 T2) fun x6 T5 => if x6 = 0 then (ax_is T5 v0 10 <| axB (F_X10_takes N v0 14 9 7 8 20 0 0 T5) fun x9 T8 => if x9 = 0 then (ax_is T8 v0 10 <| axB (F_X10_takes N v0 17 21 9 5 20 0 0 T8) fun x12 T11 => if x12 = 0 then (ax_is T11 v0 10 <| axB (F_X10_takes N v0 23 1 24 0 0 0 0 T11) fun x15 T14 => if x15 = 0 then (ax_is T14 v0 10 <| axB (F_X10_takes N v0 19 20 15 18 13 0 0 T14) fun x18 T17 => if x18 = 0 then (ax_is T17 v0 10 <| axB (F_X10_takes N v0 3 8 5 19 20 0 0 T17) fun x21 T20 => if x21 = 0 then (some ((-1), T20)) else (some (6, T20))) else (some (5, T17))) else (some (4, T14))) else (some (3, T11))) else (some (2, T8))) else (some (1, T5))) else (some (0, T2))

def F_X10_one_58 (N : Nat) (kr : Nat → AxS → Option (AxS))  (v0 : Nat) (w0 : Int32) (S : AxS) : Option (AxS) :=
  if w0 = ((-1)) then (ax_gi S v0 10 4 fun x1 => ax_is S v0 10 <| axB (F_X10_byteAt N v0 x1 S) fun x4 T3 => if x4 = 40 then (ax_is T3 v0 10 <| axB (F_X10_opensOne N v0 T3) fun x19 T18 => if x19 = 0 then (some T18) else (ax_gi T18 v0 10 4 fun x20 => ax_pi T18 v0 10 4 (x20 + 1) fun T21 => ax_is T21 v0 10 <| axBV (kr v0 T21) fun T23 => ax_is T23 v0 10 <| axBV (F_X10_sign N v0 41 T23) fun T26 => ax_gi T26 v0 10 8 fun x28 => ax_pi T26 v0 10 8 (x28 - 1) fun T29 => some T29)) else (ax_is T3 v0 10 <| axB (F_X10_knownHere N v0 T3) fun x7 T6 => if x7 = ((-1)) then (ax_is T6 v0 10 <| axB (F_X10_number N v0 0 999 T6) fun x10 T9 => ax_is T9 v0 10 <| axBV (F_X10_notes N v0 0 x10 T9) fun T12 => some T12) else (ax_is T6 v0 10 <| axBV (F_X10_notes N v0 1 x7 T6) fun T15 => some T15))) else (ax_is S v0 10 <| axB (F_X10_opensOne N v0 S) fun x32 T31 => if x32 = 0 then (some T31) else (ax_is T31 v0 10 <| axBV (F_X10_skipWord N v0 T31) fun T34 => ax_is T34 v0 10 <| axBV (F_X10_sign N v0 91 T34) fun T37 => ax_is T37 v0 10 <| axBV (kr v0 T37) fun T40 => ax_is T40 v0 10 <| axBV (F_X10_sign N v0 44 T40) fun T43 => ax_is T43 v0 10 <| axBV (kr v0 T43) fun T46 => ax_is T46 v0 10 <| axBV (F_X10_sign N v0 93 T46) fun T49 => ax_is T49 v0 10 <| axBV (F_X10_notes N v0 w0 0 T49) fun T52 => ax_gi T52 v0 10 8 fun x54 => ax_pi T52 v0 10 8 (x54 - 1) fun T55 => some T55))
def F_X10_one (N : Nat) (kr : Nat → AxS → Option (AxS)) (v0 : Nat) (S : AxS) : Option (AxS) :=
  ax_gi S v0 10 5 fun x1 => if x1 = 0 then (ax_is S v0 10 <| axBV (F_X10_blanks N v0 S) fun T3 => ax_is T3 v0 10 <| axB (F_X10_isWord N v0 12 5 1 19 20 0 0 T3) fun x7 T6 => if x7 = 0 then (ax_is T6 v0 10 <| axB (F_X10_isWord N v0 13 15 19 20 0 0 0 T6) fun x10 T9 => if x10 = 0 then (F_X10_one_58 N kr  v0 ((-1)) T9) else (F_X10_one_58 N kr  v0 8 T9)) else (F_X10_one_58 N kr  v0 7 T6)) else (some S)

def F_X10_product_52 (N : Nat) (kr : Nat → AxS → Option (AxS)) (K4 : Nat → AxS → Option (AxS)) (v0 : Nat) (w0 : Int32) (S : AxS) : Option (AxS) :=
  if w0 = ((-1)) then (some S) else (ax_is S v0 10 <| axBV (F_X10_one N kr v0 S) fun T2 => ax_is T2 v0 10 <| axBV (F_X10_notes N v0 w0 0 T2) fun T5 => K4 v0 T5)
def F_X10_product_4b (N : Nat) (kr : Nat → AxS → Option (AxS)) (K4 : Nat → AxS → Option (AxS)) (v0 : Nat) (S : AxS) : Option (AxS) :=
  ax_gi S v0 10 5 fun x1 => if x1 = 0 then (ax_is S v0 10 <| axB (F_X10_takesSign N v0 42 S) fun x4 T3 => if x4 = 0 then (ax_is T3 v0 10 <| axB (F_X10_takesSign N v0 47 T3) fun x7 T6 => if x7 = 0 then (ax_is T6 v0 10 <| axB (F_X10_takesSign N v0 37 T6) fun x10 T9 => if x10 = 0 then (F_X10_product_52 N kr K4 v0 ((-1)) T9) else (F_X10_product_52 N kr K4 v0 6 T9)) else (F_X10_product_52 N kr K4 v0 5 T6)) else (F_X10_product_52 N kr K4 v0 4 T3)) else (some S)
def F_X10_product_4 (N : Nat) (kr : Nat → AxS → Option (AxS))  : Nat → Nat → AxS → Option (AxS) := axIter (fun KK => F_X10_product_4b N kr KK) (fun _ _ => none)
def F_X10_product (N : Nat) (kr : Nat → AxS → Option (AxS)) (v0 : Nat) (S : AxS) : Option (AxS) :=
  ax_is S v0 10 <| axBV (F_X10_one N kr v0 S) fun T2 => F_X10_product_4 N kr  N v0 T2

def F_X10_sum_38 (N : Nat) (kr : Nat → AxS → Option (AxS)) (K4 : Nat → AxS → Option (AxS)) (v0 : Nat) (w0 : Int32) (S : AxS) : Option (AxS) :=
  if w0 = ((-1)) then (some S) else (ax_is S v0 10 <| axBV (F_X10_product N kr v0 S) fun T2 => ax_is T2 v0 10 <| axBV (F_X10_notes N v0 w0 0 T2) fun T5 => K4 v0 T5)
def F_X10_sum_4b (N : Nat) (kr : Nat → AxS → Option (AxS)) (K4 : Nat → AxS → Option (AxS)) (v0 : Nat) (S : AxS) : Option (AxS) :=
  ax_gi S v0 10 5 fun x1 => if x1 = 0 then (ax_is S v0 10 <| axB (F_X10_takesSign N v0 43 S) fun x4 T3 => if x4 = 0 then (ax_is T3 v0 10 <| axB (F_X10_takesSign N v0 45 T3) fun x7 T6 => if x7 = 0 then (F_X10_sum_38 N kr K4 v0 ((-1)) T6) else (F_X10_sum_38 N kr K4 v0 3 T6)) else (F_X10_sum_38 N kr K4 v0 2 T3)) else (some S)
def F_X10_sum_4 (N : Nat) (kr : Nat → AxS → Option (AxS))  : Nat → Nat → AxS → Option (AxS) := axIter (fun KK => F_X10_sum_4b N kr KK) (fun _ _ => none)
def F_X10_sum (N : Nat) (kr : Nat → AxS → Option (AxS)) (v0 : Nat) (S : AxS) : Option (AxS) :=
  ax_is S v0 10 <| axBV (F_X10_product N kr v0 S) fun T2 => F_X10_sum_4 N kr  N v0 T2
def GG_X10_sum (N : Nat) : Nat → Nat → AxS → Option (AxS) := axIter (fun kr => F_X10_sum N kr) (fun _ _ => none)
def G_X10_sum (N : Nat) : Nat → AxS → Option (AxS) := GG_X10_sum N 9

def F_X10_law_85 (N : Nat)  (v0 : Nat) (S : AxS) : Option (Int32 × AxS) :=
  ax_gi S v0 10 5 fun x1 => if x1 = 0 then (ax_pi S v0 10 3 ((-1)) fun T2 => ax_gi T2 v0 10 18 fun x3 => ax_pi T2 v0 10 17 x3 fun T4 => ax_gr T4 v0 10 20 fun a5 => ax_gr T4 v0 10 19 fun a6 => ax_gi T4 v0 10 17 fun x7 => axBV (F_X10_lays N a5 a6 x7 T4) fun T8 => some (1, T8)) else (ax_is S v0 10 <| axB (F_X10_ends N v0 S) fun x12 T11 => some (x12, T11))
def F_X10_law_30 (N : Nat)  (v0 : Nat) (v1 : Int32) (w0 : Int32) (w1 : Nat) (S : AxS) : Option (Int32 × AxS) :=
  ax_is S w1 10 <| axB (F_X10_bad N w1 w0 1 1 S) fun x3 T2 => if x3 = 0 then (ax_is T2 v0 10 <| axBV (F_X10_starts N v0 v1 T2) fun T5 => ax_pi T5 v0 10 18 0 fun T7 => ax_is T7 v0 10 <| axBV (G_X10_sum N v0 T7) fun T9 => ax_is T9 v0 10 <| axBV (F_X10_blanks N v0 T9) fun T12 => ax_gi T12 v0 10 5 fun x14 => if x14 = 0 then (ax_gi T12 v0 10 4 fun x15 => ax_gi T12 v0 10 2 fun x16 => if x16 ≤ x15 then (F_X10_law_85 N  v0 T12) else (ax_gi T12 v0 10 4 fun x17 => ax_is T12 v0 10 <| axBV (F_X10_wrong N v0 1 x17 T12) fun T19 => F_X10_law_85 N  v0 T19)) else (F_X10_law_85 N  v0 T12)) else (some (0, T2))
def F_X10_law_25 (N : Nat)  (v0 : Nat) (v1 : Int32) (w0 : Nat) (S : AxS) : Option (Int32 × AxS) :=
  F_X10_law_30 N  v0 v1 1 w0 S
def F_X10_law (N : Nat) (v0 : Nat) (v1 : Int32) (S : AxS) : Option (Int32 × AxS) :=
  ax_pi S v0 10 0 0 fun T1 => ax_gi T1 v0 10 1 fun x2 => axB (F_X10_in N v1 0 x2 T1) fun x4 T3 => if x4 = 0 then (F_X10_law_25 N  v0 v1 v0 T3) else (if v1 ≤ 150 then (F_X10_law_30 N  v0 v1 0 v0 T3) else (F_X10_law_25 N  v0 v1 v0 T3))

def F_X10_by (N : Nat) (v0 : Int32) (v1 : Int32) (v2 : Int32) (S : AxS) : Option (Int32 × AxS) :=
  if v0 = 2 then (some (v1 + v2, S)) else (if v0 = 3 then (some (v1 - v2, S)) else (if v0 = 4 then (some (v1 * v2, S)) else (if v0 = 5 then (if v2 = 0 then (some (0, S)) else (if v2 = ((-1)) then (some (-v1, S)) else (ax_ne v2 <| some (v1 / v2, S)))) else (if v0 = 6 then (if v2 = 0 then (some (0, S)) else (if v2 = ((-1)) then (some (0, S)) else (ax_ne v2 <| some (v1 - v1 / v2 * v2, S)))) else (if v0 = 7 then (axB (F_X10_less N v1 v2 S) fun x7 T6 => some (x7, T6)) else (axB (F_X10_more N v1 v2 S) fun x10 T9 => some (x10, T9)))))))

def F_X10_byLaw_122 (N : Nat) (K19 : Nat → Int32 → Int32 → AxS → Option (Int32 × AxS)) (v0 : Nat) (v1 : Int32) (v2 : Int32) (S : AxS) : Option (Int32 × AxS) :=
  K19 v0 v1 (v2 + 1) S
def F_X10_byLaw_79 (N : Nat) (K19 : Nat → Int32 → Int32 → AxS → Option (Int32 × AxS)) (v0 : Nat) (v1 : Int32) (v2 : Int32) (w0 : Int32) (w1 : Int32) (w2 : Nat) (S : AxS) : Option (Int32 × AxS) :=
  ax_st S w2 w1 w0 fun T1 => F_X10_byLaw_122 N K19 v0 (v1 + 1) v2 T1
def F_X10_byLaw_19b (N : Nat) (K19 : Nat → Int32 → Int32 → AxS → Option (Int32 × AxS)) (v0 : Nat) (v1 : Int32) (v2 : Int32) (S : AxS) : Option (Int32 × AxS) :=
  ax_gi S v0 10 17 fun x1 => if x1 ≤ v2 then (ax_gr S v0 10 23 fun a2 => ax_ld S a2 0 fun x3 => axB (F_X10_more N 0 x3 S) fun x5 T4 => axB (F_X10_less N 999 x5 T4) fun x7 T6 => some (x7, T6)) else (ax_gr S v0 10 19 fun a8 => ax_ldr S a8 v2 fun a9 => ax_ld S a9 0 fun x10 => if 2 ≤ x10 then (ax_gr S v0 10 23 fun a11 => ax_gr S v0 10 19 fun a12 => ax_ldr S a12 v2 fun a13 => ax_ld S a13 0 fun x14 => ax_gr S v0 10 23 fun a15 => ax_ld S a15 ((v1 + (-1)) - 1) fun x16 => ax_gr S v0 10 23 fun a17 => ax_ld S a17 (v1 + (-1)) fun x18 => axB (F_X10_by N x14 x16 x18 S) fun x20 T19 => ax_st T19 a11 ((v1 + (-1)) - 1) x20 fun T21 => F_X10_byLaw_122 N K19 v0 (v1 + (-1)) v2 T21) else (ax_gr S v0 10 23 fun a22 => ax_gr S v0 10 19 fun a23 => ax_ldr S a23 v2 fun a24 => ax_ld S a24 0 fun x25 => if x25 = 0 then (ax_gr S v0 10 19 fun a31 => ax_ldr S a31 v2 fun a32 => ax_ld S a32 1 fun x33 => F_X10_byLaw_79 N K19 v0 v1 v2 x33 v1 a22 S) else (ax_gr S v0 10 24 fun a26 => ax_gr S v0 10 19 fun a27 => ax_ldr S a27 v2 fun a28 => ax_ld S a28 1 fun x29 => ax_ld S a26 x29 fun x30 => F_X10_byLaw_79 N K19 v0 v1 v2 x30 v1 a22 S)))
def F_X10_byLaw_19 (N : Nat)  : Nat → Nat → Int32 → Int32 → AxS → Option (Int32 × AxS) := axIter (fun KK => F_X10_byLaw_19b N KK) (fun _ _ _ _ => none)
def F_X10_byLaw (N : Nat) (v0 : Nat) (S : AxS) : Option (Int32 × AxS) :=
  ax_gr S v0 10 23 fun a1 => ax_gr S v0 10 24 fun a2 => ax_ld S a2 0 fun x3 => ax_ne 10 <| ax_st S a1 0 (x3 / 10) fun T4 => F_X10_byLaw_19 N  N v0 0 0 T4

def F_X10_stepHere (N : Nat) (v0 : Nat) (S : AxS) : Option (Int32 × AxS) :=
  ax_is S v0 10 <| axB (F_X10_isWord N v0 16 1 25 0 0 0 0 S) fun x3 T2 => if x3 = 0 then (ax_is T2 v0 10 <| axB (F_X10_isWord N v0 1 12 13 19 0 0 0 T2) fun x6 T5 => if x6 = 0 then (ax_is T5 v0 10 <| axB (F_X10_isWord N v0 23 1 24 0 0 0 0 T5) fun x9 T8 => if x9 = 0 then (ax_is T8 v0 10 <| axB (F_X10_isWord N v0 18 5 3 5 9 16 20 T8) fun x12 T11 => if x12 = 0 then (ax_is T11 v0 10 <| axB (F_X10_isWord N v0 19 23 1 16 0 0 0 T11) fun x15 T14 => if x15 = 0 then (ax_is T14 v0 10 <| axB (F_X10_isWord N v0 14 9 7 8 20 0 0 T14) fun x18 T17 => if x18 = 0 then (ax_is T17 v0 10 <| axB (F_X10_isWord N v0 1 7 1 9 14 0 0 T17) fun x21 T20 => if x21 = 0 then (some ((-1), T20)) else (some (6, T20))) else (some (5, T17))) else (some (4, T14))) else (some (3, T11))) else (some (2, T8))) else (some (1, T5))) else (some (0, T2))

def F_X10_readsStep_220 (N : Nat) (kr : Nat → AxS → Option (AxS))  (v0 : Nat) (v2 : Nat) (S : AxS) : Option (AxS) :=
  ax_gi S v0 10 26 fun x1 => ax_st S v2 3 x1 fun T2 => ax_is T2 v0 10 <| axBV (F_X10_sign N v0 59 T2) fun T4 => some T4
def F_X10_readsStep_204 (N : Nat) (kr : Nat → AxS → Option (AxS))  (v0 : Nat) (v2 : Nat) (S : AxS) : Option (AxS) :=
  ax_is S v0 10 <| axBV (F_X10_sign N v0 93 S) fun T2 => ax_gi T2 v0 10 8 fun x4 => ax_pi T2 v0 10 8 (x4 - 1) fun T5 => F_X10_readsStep_220 N kr  v0 v2 T5
def F_X10_readsStep_173b (N : Nat) (kr : Nat → AxS → Option (AxS)) (K173 : Nat → Nat → AxS → Option (AxS)) (v0 : Nat) (v2 : Nat) (S : AxS) : Option (AxS) :=
  ax_gi S v0 10 5 fun x1 => if x1 = 0 then (ax_gi S v0 10 4 fun x2 => ax_is S v0 10 <| axB (F_X10_byteAt N v0 x2 S) fun x5 T4 => if x5 = 93 then (F_X10_readsStep_204 N kr  v0 v2 T4) else (ax_is T4 v0 10 <| axBV (kr v0 T4) fun T7 => ax_is T7 v0 10 <| axBV (F_X10_blanks N v0 T7) fun T10 => K173 v0 v2 T10)) else (F_X10_readsStep_204 N kr  v0 v2 S)
def F_X10_readsStep_173 (N : Nat) (kr : Nat → AxS → Option (AxS))  : Nat → Nat → Nat → AxS → Option (AxS) := axIter (fun KK => F_X10_readsStep_173b N kr KK) (fun _ _ _ => none)
def F_X10_readsStep_147 (N : Nat) (kr : Nat → AxS → Option (AxS))  (v0 : Nat) (v1 : Int32) (v2 : Nat) (S : AxS) : Option (AxS) :=
  if v1 = 6 then (ax_is S v0 10 <| axB (F_X10_number N v0 0 30 S) fun x3 T2 => ax_st T2 v2 1 x3 fun T4 => ax_is T4 v0 10 <| axBV (F_X10_sign N v0 91 T4) fun T6 => ax_is T6 v0 10 <| axBV (F_X10_blanks N v0 T6) fun T9 => F_X10_readsStep_173 N kr  N v0 v2 T9) else (F_X10_readsStep_220 N kr  v0 v2 S)
def F_X10_readsStep_110 (N : Nat) (kr : Nat → AxS → Option (AxS))  (v0 : Nat) (v1 : Int32) (v2 : Nat) (S : AxS) : Option (AxS) :=
  if v1 = 4 then (ax_gr S v0 10 12 fun a1 => ax_ld S a1 2 fun x2 => ax_is S v0 10 <| axB (F_X10_number N v0 0 (x2 - 1) S) fun x5 T4 => ax_st T4 v2 1 x5 fun T6 => ax_gr T6 v0 10 12 fun a7 => ax_ld T6 a7 2 fun x8 => ax_is T6 v0 10 <| axB (F_X10_number N v0 0 (x8 - 1) T6) fun x11 T10 => ax_st T10 v2 2 x11 fun T12 => F_X10_readsStep_147 N kr  v0 v1 v2 T12) else (F_X10_readsStep_147 N kr  v0 v1 v2 S)
def F_X10_readsStep_89 (N : Nat) (kr : Nat → AxS → Option (AxS))  (v0 : Nat) (v1 : Int32) (v2 : Nat) (S : AxS) : Option (AxS) :=
  if v1 = 1 then (ax_gr S v0 10 12 fun a1 => ax_ld S a1 0 fun x2 => ax_is S v0 10 <| axB (F_X10_number N v0 0 (x2 - 1) S) fun x5 T4 => ax_st T4 v2 1 x5 fun T6 => F_X10_readsStep_110 N kr  v0 v1 v2 T6) else (F_X10_readsStep_110 N kr  v0 v1 v2 S)
def F_X10_readsStep_78 (N : Nat) (kr : Nat → AxS → Option (AxS))  (v0 : Nat) (v1 : Int32) (v2 : Nat) (S : AxS) : Option (AxS) :=
  ax_is S v0 10 <| axB (F_X10_number N v0 1 999 S) fun x3 T2 => ax_st T2 v2 1 x3 fun T4 => F_X10_readsStep_89 N kr  v0 v1 v2 T4
def F_X10_readsStep_33 (N : Nat) (kr : Nat → AxS → Option (AxS))  (v0 : Nat) (v1 : Int32) (S : AxS) : Option (AxS) :=
  ax_gi S v0 10 5 fun x1 => if x1 = 0 then (ax_is S v0 10 <| axBV (F_X10_skipWord N v0 S) fun T3 => ax_gr T3 v0 10 25 fun a5 => ax_gi T3 v0 10 26 fun x6 => ax_ldr T3 a5 x6 fun a7 => ax_gi T3 v0 10 26 fun x8 => ax_pi T3 v0 10 26 (x8 + 1) fun T9 => ax_st T9 a7 0 v1 fun T10 => if v1 = 0 then (F_X10_readsStep_78 N kr  v0 v1 a7 T10) else (if v1 = 3 then (F_X10_readsStep_78 N kr  v0 v1 a7 T10) else (F_X10_readsStep_89 N kr  v0 v1 a7 T10))) else (some S)
def F_X10_readsStep_19 (N : Nat) (kr : Nat → AxS → Option (AxS))  (v0 : Nat) (v1 : Int32) (S : AxS) : Option (AxS) :=
  if v1 = 6 then (ax_is S v0 10 <| axB (F_X10_opensOne N v0 S) fun x3 T2 => if x3 = 0 then (some T2) else (F_X10_readsStep_33 N kr  v0 v1 T2)) else (F_X10_readsStep_33 N kr  v0 v1 S)
def F_X10_readsStep (N : Nat) (kr : Nat → AxS → Option (AxS)) (v0 : Nat) (S : AxS) : Option (AxS) :=
  ax_is S v0 10 <| axB (F_X10_stepHere N v0 S) fun x3 T2 => if x3 = ((-1)) then (ax_gi T2 v0 10 4 fun x4 => ax_is T2 v0 10 <| axBV (F_X10_wrong N v0 1 x4 T2) fun T6 => F_X10_readsStep_19 N kr  v0 x3 T6) else (F_X10_readsStep_19 N kr  v0 x3 T2)
def GG_X10_readsStep (N : Nat) : Nat → Nat → AxS → Option (AxS) := axIter (fun kr => F_X10_readsStep N kr) (fun _ _ => none)
def G_X10_readsStep (N : Nat) : Nat → AxS → Option (AxS) := GG_X10_readsStep N 9

def F_X10_book_192 (N : Nat)  (v0 : Nat) (v2 : Int32) (S : AxS) : Option (Int32 × AxS) :=
  ax_gi S v0 10 5 fun x1 => if x1 = 0 then (ax_pi S v0 10 3 ((-1)) fun T2 => ax_pi T2 v0 10 31 v2 fun T3 => ax_gr T3 v0 10 22 fun a4 => ax_gr T3 v0 10 21 fun a5 => axBV (F_X10_lays N a4 a5 v2 T3) fun T6 => some (v2, T6)) else (ax_is S v0 10 <| axB (F_X10_ends N v0 S) fun x10 T9 => some (x10, T9))
def F_X10_book_185 (N : Nat) (K46 : Nat → Int32 → AxS → Option (Int32 × AxS)) (v0 : Nat) (v2 : Int32) (S : AxS) : Option (Int32 × AxS) :=
  ax_is S v0 10 <| axBV (F_X10_blanks N v0 S) fun T2 => K46 v0 v2 T2
def F_X10_book_139 (N : Nat) (K46 : Nat → Int32 → AxS → Option (Int32 × AxS)) (v0 : Nat) (v2 : Int32) (v4 : Int32) (S : AxS) : Option (Int32 × AxS) :=
  ax_is S v0 10 <| axB (F_X10_number N v0 0 999 S) fun x3 T2 => ax_is T2 v0 10 <| axBV (F_X10_sign N v0 59 T2) fun T5 => ax_gi T5 v0 10 5 fun x7 => if x7 = 0 then (ax_gr T5 v0 10 22 fun a8 => ax_ldr T5 a8 v2 fun a9 => ax_st T5 a9 0 v4 fun T10 => ax_gr T10 v0 10 22 fun a11 => ax_ldr T10 a11 v2 fun a12 => ax_st T10 a12 1 x3 fun T13 => F_X10_book_185 N K46 v0 (v2 + 1) T13) else (F_X10_book_185 N K46 v0 v2 T5)
def F_X10_book_114 (N : Nat) (K81 : Nat → Int32 → Int32 → Int32 → Int32 → AxS → Option (Int32 × AxS)) (v0 : Nat) (v2 : Int32) (v3 : Int32) (v4 : Int32) (v5 : Int32) (S : AxS) : Option (Int32 × AxS) :=
  K81 v0 v2 v3 v4 (v5 + 1) S
def F_X10_book_81b (N : Nat) (K46 : Nat → Int32 → AxS → Option (Int32 × AxS)) (K81 : Nat → Int32 → Int32 → Int32 → Int32 → AxS → Option (Int32 × AxS)) (v0 : Nat) (v2 : Int32) (v3 : Int32) (v4 : Int32) (v5 : Int32) (S : AxS) : Option (Int32 × AxS) :=
  if v2 ≤ v5 then (ax_gi S v0 10 5 fun x1 => if x1 = 0 then (if v2 = 8 then (ax_is S v0 10 <| axBV (F_X10_wrong N v0 3 v3 S) fun T3 => F_X10_book_139 N K46 v0 v2 v4 T3) else (F_X10_book_139 N K46 v0 v2 v4 S)) else (F_X10_book_139 N K46 v0 v2 v4 S)) else (ax_gi S v0 10 5 fun x5 => if x5 = 0 then (ax_gr S v0 10 22 fun a6 => ax_ldr S a6 v5 fun a7 => ax_ld S a7 0 fun x8 => if x8 = v4 then (ax_is S v0 10 <| axBV (F_X10_wrong N v0 2 v3 S) fun T10 => F_X10_book_114 N K81 v0 v2 v3 v4 v5 T10) else (F_X10_book_114 N K81 v0 v2 v3 v4 v5 S)) else (F_X10_book_114 N K81 v0 v2 v3 v4 v5 S))
def F_X10_book_81 (N : Nat) (K46 : Nat → Int32 → AxS → Option (Int32 × AxS)) : Nat → Nat → Int32 → Int32 → Int32 → Int32 → AxS → Option (Int32 × AxS) := axIter (fun KK => F_X10_book_81b N K46 KK) (fun _ _ _ _ _ _ => none)
def F_X10_book_46b (N : Nat) (K46 : Nat → Int32 → AxS → Option (Int32 × AxS)) (v0 : Nat) (v2 : Int32) (S : AxS) : Option (Int32 × AxS) :=
  ax_gi S v0 10 5 fun x1 => if x1 = 0 then (ax_gi S v0 10 4 fun x2 => ax_gi S v0 10 2 fun x3 => if x3 ≤ x2 then (F_X10_book_192 N  v0 v2 S) else (ax_gi S v0 10 4 fun x4 => ax_is S v0 10 <| axB (F_X10_number N v0 0 59 S) fun x7 T6 => F_X10_book_81 N K46 N v0 v2 x4 x7 0 T6)) else (F_X10_book_192 N  v0 v2 S)
def F_X10_book_46 (N : Nat)  : Nat → Nat → Int32 → AxS → Option (Int32 × AxS) := axIter (fun KK => F_X10_book_46b N KK) (fun _ _ _ => none)
def F_X10_book_29 (N : Nat)  (v0 : Nat) (v1 : Int32) (w0 : Int32) (w1 : Nat) (S : AxS) : Option (Int32 × AxS) :=
  ax_is S w1 10 <| axB (F_X10_bad N w1 w0 1 1 S) fun x3 T2 => if x3 = 0 then (ax_is T2 v0 10 <| axBV (F_X10_starts N v0 v1 T2) fun T5 => F_X10_book_46 N  N v0 0 T5) else (some (0, T2))
def F_X10_book_24 (N : Nat)  (v0 : Nat) (v1 : Int32) (w0 : Nat) (S : AxS) : Option (Int32 × AxS) :=
  F_X10_book_29 N  v0 v1 1 w0 S
def F_X10_book (N : Nat) (v0 : Nat) (v1 : Int32) (S : AxS) : Option (Int32 × AxS) :=
  ax_pi S v0 10 0 0 fun T1 => ax_gi T1 v0 10 1 fun x2 => axB (F_X10_in N v1 0 x2 T1) fun x4 T3 => if x4 = 0 then (F_X10_book_24 N  v0 v1 v0 T3) else (if v1 ≤ 100 then (F_X10_book_29 N  v0 v1 0 v0 T3) else (F_X10_book_24 N  v0 v1 v0 T3))

def F_X10_fault (N : Nat) (v0 : Nat) (S : AxS) : Option (Int32 × AxS) :=
  ax_pi S v0 10 0 0 fun T1 => ax_gi T1 v0 10 3 fun x2 => some (x2, T1)

def F_X10_asksOf (N : Nat) (v0 : Nat) (S : AxS) : Option (Int32 × AxS) :=
  ax_ld S v0 0 fun x1 => ax_ld S v0 6 fun x2 => axB (F_X10_more N 0 (x1 - x2) S) fun x4 T3 => some (x4, T3)

def F_X10_strokesOf (N : Nat) (v0 : Nat) (v1 : Nat) (S : AxS) : Option (Int32 × AxS) :=
  ax_gr S v0 10 24 fun a1 => axB (F_X10_asksOf N v1 S) fun x3 T2 => ax_st T2 a1 0 x3 fun T4 => ax_gr T4 v0 10 24 fun a5 => ax_ld T4 v1 4 fun x6 => ax_st T4 a5 1 x6 fun T7 => ax_gr T7 v0 10 24 fun a8 => ax_ld T7 v1 2 fun x9 => ax_st T7 a8 2 x9 fun T10 => ax_gr T10 v0 10 24 fun a11 => ax_ld T10 v1 3 fun x12 => ax_st T10 a11 3 x12 fun T13 => ax_gr T13 v0 10 24 fun a14 => ax_ld T13 v1 5 fun x15 => ax_st T13 a14 4 x15 fun T16 => ax_gr T16 v0 10 24 fun a17 => ax_ld T16 v1 12 fun x18 => ax_st T16 a17 5 x18 fun T19 => ax_gr T19 v0 10 24 fun a20 => ax_ld T19 v1 1 fun x21 => ax_st T19 a20 6 x21 fun T22 => ax_is T22 v0 10 <| axB (F_X10_byLaw N v0 T22) fun x25 T24 => ax_ld T24 v1 8 fun x26 => axB (F_X10_less N 999 (x25 + x26) T24) fun x28 T27 => some (x28, T27)

def F_X10_noiseOf (N : Nat) (v0 : Nat) (v1 : Int32) (v2 : Int32) (v3 : Int32) (S : AxS) : Option (Int32 × AxS) :=
  ax_gr S v0 10 16 fun a1 => ax_ldr S a1 1 fun a2 => ax_ld S a2 v1 fun x3 => ax_ne (1 + x3) <| ax_ne (1 + v3) <| some ((v2 / (1 + x3)) / (1 + v3), S)

def F_X10_isWaking (N : Nat) (v0 : Nat) (v1 : Nat) (v2 : Int32) (v3 : Int32) (S : AxS) : Option (Int32 × AxS) :=
  ax_ld S v1 (13 + v2) fun x1 => ax_ld S v1 5 fun x2 => ax_is S v0 10 <| axB (F_X10_noiseOf N v0 x1 v3 x2 S) fun x5 T4 => ax_gr T4 v0 10 16 fun a6 => ax_ldr T4 a6 2 fun a7 => ax_ld T4 a7 v2 fun x8 => if x5 ≤ x8 then (ax_rz 0 (some (0, T4))) else (ax_rz 1 (some (1, T4)))

def F_X10_earns (N : Nat) (v0 : Nat) (v1 : Int32) (S : AxS) : Option (AxS) :=
  ax_ld S v0 0 fun x1 => ax_ld S v0 0 fun x2 => ax_ne 100 <| axB (F_X10_less N 99999 (x1 + ((x2 * v1) / 100)) S) fun x4 T3 => ax_st T3 v0 0 x4 fun T5 => some T5

def F_X10_nightEnds_190 (N : Nat)  (v1 : Nat) (S : AxS) : Option (AxS) :=
  ax_ld S v1 2 fun x1 => ax_st S v1 2 (x1 + 1) fun T2 => some T2
def F_X10_nightEnds_144 (N : Nat)  (v0 : Nat) (v1 : Nat) (w0 : Int32) (w1 : Int32) (w2 : Nat) (S : AxS) : Option (AxS) :=
  ax_st S w2 w1 w0 fun T1 => ax_ld T1 v1 1 fun x2 => ax_gr T1 v0 10 14 fun a3 => ax_ld T1 v1 2 fun x4 => ax_ne 12 <| ax_ld T1 a3 (x4 - x4 / 12 * 12) fun x5 => axB (F_X10_less N 9999 (x2 + x5) T1) fun x7 T6 => ax_st T6 v1 1 x7 fun T8 => ax_ld T8 v1 2 fun x9 => ax_ne 12 <| if (x9 - x9 / 12 * 12) = 11 then (ax_gr T8 v0 10 12 fun a10 => ax_ld T8 a10 5 fun x11 => axBV (F_X10_earns N v1 x11 T8) fun T12 => F_X10_nightEnds_190 N  v1 T12) else (F_X10_nightEnds_190 N  v1 T8)
def F_X10_nightEnds_111 (N : Nat)  (v0 : Nat) (v1 : Nat) (w0 : Int32) (w1 : Int32) (w2 : Nat) (S : AxS) : Option (AxS) :=
  ax_st S w2 w1 w0 fun T1 => ax_ld T1 v1 7 fun x2 => axB (F_X10_more N 0 (x2 - 1) T1) fun x4 T3 => ax_st T3 v1 7 x4 fun T5 => ax_ld T5 v1 7 fun x6 => if x6 = 0 then (F_X10_nightEnds_144 N  v0 v1 0 6 v1 T5) else (ax_ld T5 v1 6 fun x7 => F_X10_nightEnds_144 N  v0 v1 x7 6 v1 T5)
def F_X10_nightEnds_78 (N : Nat)  (v0 : Nat) (v1 : Nat) (w0 : Int32) (w1 : Int32) (w2 : Nat) (S : AxS) : Option (AxS) :=
  ax_st S w2 w1 w0 fun T1 => ax_st T1 v1 5 0 fun T2 => ax_st T2 v1 11 0 fun T3 => ax_st T3 v1 4 0 fun T4 => ax_ld T4 v1 7 fun x5 => if x5 = 1 then (ax_ld T4 v1 6 fun x6 => F_X10_nightEnds_111 N  v0 v1 x6 8 v1 T4) else (F_X10_nightEnds_111 N  v0 v1 0 8 v1 T4)
def F_X10_nightEnds_49 (N : Nat) (K8 : Nat → Nat → Int32 → Int32 → AxS → Option (AxS)) (v0 : Nat) (v1 : Nat) (v2 : Int32) (v3 : Int32) (S : AxS) : Option (AxS) :=
  K8 v0 v1 v2 (v3 + 1) S
def F_X10_nightEnds_8b (N : Nat) (K8 : Nat → Nat → Int32 → Int32 → AxS → Option (AxS)) (v0 : Nat) (v1 : Nat) (v2 : Int32) (v3 : Int32) (S : AxS) : Option (AxS) :=
  ax_gr S v0 10 12 fun a1 => ax_ld S a1 2 fun x2 => if x2 ≤ v3 then (ax_ld S v1 9 fun x3 => ax_st S v1 9 (x3 + v2) fun T4 => if v2 = 0 then (ax_ld T4 v1 3 fun x5 => F_X10_nightEnds_78 N  v0 v1 (x5 + 1) 3 v1 T4) else (F_X10_nightEnds_78 N  v0 v1 0 3 v1 T4)) else (ax_is S v0 10 <| axB (F_X10_isWaking N v0 v1 v3 v2 S) fun x8 T7 => if x8 = 0 then (F_X10_nightEnds_49 N K8 v0 v1 v2 v3 T7) else (ax_ld T7 v1 (21 + v3) fun x9 => ax_st T7 v1 (21 + v3) (x9 + 1) fun T10 => ax_ld T10 v1 10 fun x11 => ax_st T10 v1 10 (x11 + 1) fun T12 => F_X10_nightEnds_49 N K8 v0 v1 v2 v3 T12))
def F_X10_nightEnds_8 (N : Nat)  : Nat → Nat → Nat → Int32 → Int32 → AxS → Option (AxS) := axIter (fun KK => F_X10_nightEnds_8b N KK) (fun _ _ _ _ _ => none)
def F_X10_nightEnds (N : Nat) (v0 : Nat) (v1 : Nat) (S : AxS) : Option (AxS) :=
  ax_is S v0 10 <| axB (F_X10_strokesOf N v0 v1 S) fun x3 T2 => F_X10_nightEnds_8 N  N v0 v1 x3 0 T2

def F_X10_pays (N : Nat) (v0 : Nat) (v1 : Int32) (S : AxS) : Option (Int32 × AxS) :=
  ax_ld S v0 1 fun x1 => if x1 < v1 then (ax_rz 0 (some (0, S))) else (ax_ld S v0 0 fun x2 => if v1 ≤ x2 then (ax_ld S v0 1 fun x3 => ax_st S v0 1 (x3 - v1) fun T4 => ax_ld T4 v0 0 fun x5 => ax_st T4 v0 0 (x5 - v1) fun T6 => ax_ld T6 v0 4 fun x7 => ax_st T6 v0 4 (x7 + v1) fun T8 => ax_rz 1 (some (1, T8))) else (ax_rz 0 (some (0, S))))

def F_X10_gives (N : Nat) (v0 : Nat) (v1 : Nat) (v2 : Int32) (S : AxS) : Option (Int32 × AxS) :=
  ax_ld S v1 11 fun x1 => axB (F_X10_has N x1 v2 S) fun x3 T2 => if x3 = 0 then (ax_ld T2 v1 11 fun x4 => ax_st T2 v1 11 (x4 ||| (1 <<< (v2 &&& 31))) fun T5 => ax_ld T5 v1 1 fun x6 => ax_gr T5 v0 10 16 fun a7 => ax_ldr T5 a7 0 fun a8 => ax_ld T5 a8 v2 fun x9 => axB (F_X10_less N 9999 (x6 + x9) T5) fun x11 T10 => ax_st T10 v1 1 x11 fun T12 => ax_rz 1 (some (1, T12))) else (ax_rz 0 (some (0, T2)))

def F_X10_does (N : Nat) (v0 : Nat) (v1 : Nat) (v2 : Nat) (S : AxS) : Option (Int32 × AxS) :=
  ax_ld S v2 0 fun x1 => if x1 = 0 then (ax_ld S v2 1 fun x2 => axB (F_X10_pays N v1 x2 S) fun x4 T3 => ax_rz x4 (some (x4, T3))) else (if x1 = 1 then (ax_ld S v2 1 fun x6 => ax_is S v0 10 <| axB (F_X10_gives N v0 v1 x6 S) fun x9 T8 => ax_rz x9 (some (x9, T8))) else (if x1 = 2 then (ax_ld S v1 5 fun x11 => if x11 = 1 then (ax_rz 0 (some (0, S))) else (ax_st S v1 5 1 fun T12 => ax_rz 1 (some (1, T12)))) else (if x1 = 3 then (ax_ld S v1 7 fun x14 => if x14 ≤ 0 then (ax_ld S v2 1 fun x15 => ax_st S v1 6 x15 fun T16 => ax_st T16 v1 7 7 fun T17 => ax_rz 1 (some (1, T17))) else (ax_rz 0 (some (0, S)))) else (if x1 = 4 then (ax_ld S v2 1 fun x19 => ax_ld S v1 (13 + x19) fun x20 => ax_ld S v2 1 fun x21 => ax_ld S v2 2 fun x22 => ax_ld S v1 (13 + x22) fun x23 => ax_st S v1 (13 + x21) x23 fun T24 => ax_ld T24 v2 2 fun x25 => ax_st T24 v1 (13 + x25) x20 fun T26 => ax_ld T26 v2 1 fun x27 => ax_ld T26 v2 2 fun x28 => if x27 = x28 then (ax_rz 0 (some (0, T26))) else (ax_rz 1 (some (1, T26)))) else (ax_ld S v1 2 fun x30 => if x30 < 999 then (ax_is S v0 10 <| axBV (F_X10_nightEnds N v0 v1 S) fun T32 => ax_rz 1 (some (1, T32))) else (ax_rz 0 (some (0, S))))))))

def F_X10_goes_144 (N : Nat) (kr : Nat → Int32 → Int32 → AxS → Option (AxS)) (K2 : Nat → Int32 → Int32 → AxS → Option (AxS)) (v0 : Nat) (v2 : Int32) (v3 : Int32) (S : AxS) : Option (AxS) :=
  ax_gr S v0 10 25 fun a1 => ax_ldr S a1 v3 fun a2 => ax_ld S a2 3 fun x3 => K2 v0 v2 x3 S
def F_X10_goes_140 (N : Nat) (kr : Nat → Int32 → Int32 → AxS → Option (AxS)) (K2 : Nat → Int32 → Int32 → AxS → Option (AxS)) (v0 : Nat) (v2 : Int32) (v3 : Int32) (w0 : Int32) (w1 : Int32) (w2 : Nat) (S : AxS) : Option (AxS) :=
  ax_pi S w2 10 33 (w1 + w0) fun T1 => F_X10_goes_144 N kr K2 v0 v2 v3 T1
def F_X10_goes_121 (N : Nat) (kr : Nat → Int32 → Int32 → AxS → Option (AxS)) (K2 : Nat → Int32 → Int32 → AxS → Option (AxS)) (v0 : Nat) (v2 : Int32) (v3 : Int32) (v4 : Int32) (w0 : Int32) (w1 : Int32) (w2 : Nat) (S : AxS) : Option (AxS) :=
  ax_pi S w2 10 37 (w1 + w0) fun T1 => ax_gi T1 v0 10 33 fun x2 => if v4 = 0 then (F_X10_goes_140 N kr K2 v0 v2 v3 1 x2 v0 T1) else (F_X10_goes_140 N kr K2 v0 v2 v3 0 x2 v0 T1)
def F_X10_goes_87 (N : Nat) (kr : Nat → Int32 → Int32 → AxS → Option (AxS)) (K2 : Nat → Int32 → Int32 → AxS → Option (AxS)) (v0 : Nat) (v2 : Int32) (v3 : Int32) (S : AxS) : Option (AxS) :=
  F_X10_goes_144 N kr K2 v0 v2 v3 S
def F_X10_goes_43b (N : Nat) (kr : Nat → Int32 → Int32 → AxS → Option (AxS)) (K2 : Nat → Int32 → Int32 → AxS → Option (AxS)) (K43 : Nat → Int32 → Int32 → Int32 → AxS → Option (AxS)) (v0 : Nat) (v2 : Int32) (v3 : Int32) (v4 : Int32) (S : AxS) : Option (AxS) :=
  ax_gr S v0 10 25 fun a1 => ax_ldr S a1 v3 fun a2 => ax_ld S a2 1 fun x3 => if x3 ≤ v4 then (F_X10_goes_87 N kr K2 v0 v2 v3 S) else (ax_gi S v0 10 36 fun x4 => if 200 ≤ x4 then (F_X10_goes_87 N kr K2 v0 v2 v3 S) else (ax_gr S v0 10 25 fun a5 => ax_ldr S a5 v3 fun a6 => ax_ld S a6 3 fun x7 => ax_is S v0 10 <| axBV (kr v0 (v3 + 1) x7 S) fun T9 => K43 v0 v2 v3 (v4 + 1) T9))
def F_X10_goes_43 (N : Nat) (kr : Nat → Int32 → Int32 → AxS → Option (AxS)) (K2 : Nat → Int32 → Int32 → AxS → Option (AxS)) : Nat → Nat → Int32 → Int32 → Int32 → AxS → Option (AxS) := axIter (fun KK => F_X10_goes_43b N kr K2 KK) (fun _ _ _ _ _ => none)
def F_X10_goes_2b (N : Nat) (kr : Nat → Int32 → Int32 → AxS → Option (AxS)) (K2 : Nat → Int32 → Int32 → AxS → Option (AxS)) (v0 : Nat) (v2 : Int32) (v3 : Int32) (S : AxS) : Option (AxS) :=
  if v2 ≤ v3 then (some S) else (ax_gi S v0 10 36 fun x1 => if 200 ≤ x1 then (some S) else (ax_gi S v0 10 36 fun x2 => ax_pi S v0 10 36 (x2 + 1) fun T3 => ax_gr T3 v0 10 25 fun a4 => ax_ldr T3 a4 v3 fun a5 => ax_ld T3 a5 0 fun x6 => if x6 = 6 then (F_X10_goes_43 N kr K2 N v0 v2 v3 0 T3) else (ax_gr T3 v0 10 27 fun a7 => ax_gr T3 v0 10 25 fun a8 => ax_ldr T3 a8 v3 fun a9 => ax_is T3 v0 10 <| axB (F_X10_does N v0 a7 a9 T3) fun x12 T11 => ax_gi T11 v0 10 37 fun x13 => if x12 = 0 then (F_X10_goes_121 N kr K2 v0 v2 v3 x12 0 x13 v0 T11) else (F_X10_goes_121 N kr K2 v0 v2 v3 x12 1 x13 v0 T11))))
def F_X10_goes_2 (N : Nat) (kr : Nat → Int32 → Int32 → AxS → Option (AxS))  : Nat → Nat → Int32 → Int32 → AxS → Option (AxS) := axIter (fun KK => F_X10_goes_2b N kr KK) (fun _ _ _ _ => none)
def F_X10_goes (N : Nat) (kr : Nat → Int32 → Int32 → AxS → Option (AxS)) (v0 : Nat) (v1 : Int32) (v2 : Int32) (S : AxS) : Option (AxS) :=
  F_X10_goes_2 N kr  N v0 v2 v1 S
def GG_X10_goes (N : Nat) : Nat → Nat → Int32 → Int32 → AxS → Option (AxS) := axIter (fun kr => F_X10_goes N kr) (fun _ _ _ _ => none)
def G_X10_goes (N : Nat) : Nat → Int32 → Int32 → AxS → Option (AxS) := GG_X10_goes N 10

def F_X10_work_101 (N : Nat)  (v0 : Nat) (S : AxS) : Option (Int32 × AxS) :=
  ax_gi S v0 10 5 fun x1 => if x1 = 0 then (ax_pi S v0 10 3 ((-1)) fun T2 => ax_gr T2 v0 10 27 fun a3 => ax_gr T2 v0 10 29 fun a4 => ax_gi T2 v0 10 32 fun x5 => ax_ldr T2 a4 x5 fun a6 => axBV (F_X10_copies N a3 a6 T2) fun T7 => ax_gi T7 v0 10 32 fun x9 => ax_pi T7 v0 10 32 (x9 + 1) fun T10 => ax_pi T10 v0 10 36 0 fun T11 => ax_pi T11 v0 10 37 0 fun T12 => ax_pi T12 v0 10 33 0 fun T13 => ax_gi T13 v0 10 26 fun x14 => ax_is T13 v0 10 <| axBV (G_X10_goes N v0 0 x14 T13) fun T16 => ax_gi T16 v0 10 37 fun x18 => some (x18, T16)) else (ax_is S v0 10 <| axB (F_X10_ends N v0 S) fun x21 T20 => some (x21, T20))
def F_X10_work_72b (N : Nat) (K72 : Nat → AxS → Option (Int32 × AxS)) (v0 : Nat) (S : AxS) : Option (Int32 × AxS) :=
  ax_gi S v0 10 5 fun x1 => if x1 = 0 then (ax_gi S v0 10 4 fun x2 => ax_gi S v0 10 2 fun x3 => if x3 ≤ x2 then (F_X10_work_101 N  v0 S) else (ax_is S v0 10 <| axBV (G_X10_readsStep N v0 S) fun T5 => ax_is T5 v0 10 <| axBV (F_X10_blanks N v0 T5) fun T8 => K72 v0 T8)) else (F_X10_work_101 N  v0 S)
def F_X10_work_72 (N : Nat)  : Nat → Nat → AxS → Option (Int32 × AxS) := axIter (fun KK => F_X10_work_72b N KK) (fun _ _ => none)
def F_X10_work_30 (N : Nat)  (v0 : Nat) (v1 : Int32) (w0 : Int32) (w1 : Nat) (S : AxS) : Option (Int32 × AxS) :=
  ax_is S w1 10 <| axB (F_X10_bad N w1 w0 1 1 S) fun x3 T2 => if x3 = 0 then (ax_gi T2 v0 10 32 fun x4 => if x4 = 16 then (ax_pi T2 v0 10 1 0 fun T9 => ax_pi T9 v0 10 3 ((-1)) fun T10 => some ((-20), T10)) else (ax_is T2 v0 10 <| axBV (F_X10_starts N v0 v1 T2) fun T6 => ax_pi T6 v0 10 26 0 fun T8 => F_X10_work_72 N  N v0 T8)) else (some (0, T2))
def F_X10_work_25 (N : Nat)  (v0 : Nat) (v1 : Int32) (w0 : Nat) (S : AxS) : Option (Int32 × AxS) :=
  F_X10_work_30 N  v0 v1 1 w0 S
def F_X10_work (N : Nat) (v0 : Nat) (v1 : Int32) (S : AxS) : Option (Int32 × AxS) :=
  ax_pi S v0 10 0 0 fun T1 => ax_gi T1 v0 10 1 fun x2 => axB (F_X10_in N v1 0 x2 T1) fun x4 T3 => if x4 = 0 then (F_X10_work_25 N  v0 v1 v0 T3) else (if v1 ≤ 150 then (F_X10_work_30 N  v0 v1 0 v0 T3) else (F_X10_work_25 N  v0 v1 v0 T3))

def F_X10_undo (N : Nat) (v0 : Nat) (S : AxS) : Option (Int32 × AxS) :=
  ax_pi S v0 10 0 0 fun T1 => ax_gi T1 v0 10 32 fun x2 => if x2 = 0 then (some ((-1), T1)) else (ax_gi T1 v0 10 32 fun x3 => ax_pi T1 v0 10 32 (x3 - 1) fun T4 => ax_gr T4 v0 10 29 fun a5 => ax_gi T4 v0 10 32 fun x6 => ax_ldr T4 a5 x6 fun a7 => ax_gr T4 v0 10 27 fun a8 => axBV (F_X10_copies N a7 a8 T4) fun T9 => ax_pi T9 v0 10 33 0 fun T11 => ax_gi T11 v0 10 32 fun x12 => some (x12, T11))

def F_X10_told_21 (N : Nat)  (v0 : Nat) (v1 : Int32) (w0 : Int32) (w1 : Nat) (S : AxS) : Option (Int32 × AxS) :=
  ax_is S w1 10 <| axB (F_X10_bad N w1 w0 1 1 S) fun x3 T2 => if x3 = 0 then (if v1 = 0 then (ax_gr T2 v0 10 27 fun a4 => ax_ld T2 a4 v1 fun x5 => some (x5, T2)) else (if v1 = 1 then (ax_gr T2 v0 10 27 fun a7 => ax_ld T2 a7 v1 fun x8 => some (x8, T2)) else (if v1 = 2 then (ax_gr T2 v0 10 27 fun a10 => ax_ld T2 a10 v1 fun x11 => some (x11, T2)) else (if v1 = 3 then (ax_gr T2 v0 10 27 fun a13 => ax_ld T2 a13 v1 fun x14 => some (x14, T2)) else (if v1 = 4 then (ax_gr T2 v0 10 27 fun a16 => ax_ld T2 a16 v1 fun x17 => some (x17, T2)) else (if v1 = 5 then (ax_gr T2 v0 10 27 fun a19 => ax_ld T2 a19 v1 fun x20 => some (x20, T2)) else (if v1 = 6 then (ax_gr T2 v0 10 27 fun a22 => ax_ld T2 a22 v1 fun x23 => some (x23, T2)) else (if v1 = 7 then (ax_gr T2 v0 10 27 fun a25 => ax_ld T2 a25 v1 fun x26 => some (x26, T2)) else (if v1 = 8 then (ax_gr T2 v0 10 27 fun a28 => ax_ld T2 a28 9 fun x29 => some (x29, T2)) else (if v1 = 9 then (ax_gr T2 v0 10 27 fun a31 => ax_ld T2 a31 10 fun x32 => some (x32, T2)) else (if v1 = 10 then (ax_gi T2 v0 10 31 fun x34 => some (x34, T2)) else (if v1 = 11 then (ax_gi T2 v0 10 33 fun x36 => some (x36, T2)) else (ax_gr T2 v0 10 27 fun a38 => ax_ld T2 a38 8 fun x39 => some (x39, T2)))))))))))))) else (some (0, T2))
def F_X10_told (N : Nat) (v0 : Nat) (v1 : Int32) (S : AxS) : Option (Int32 × AxS) :=
  ax_pi S v0 10 0 0 fun T1 => axB (F_X10_in N v1 0 12 T1) fun x3 T2 => if x3 = 0 then (F_X10_told_21 N  v0 v1 1 v0 T2) else (F_X10_told_21 N  v0 v1 0 v0 T2)

def F_X10_many_20 (N : Nat)  (v0 : Nat) (v1 : Int32) (w0 : Int32) (w1 : Nat) (S : AxS) : Option (Int32 × AxS) :=
  ax_is S w1 10 <| axB (F_X10_bad N w1 w0 1 1 S) fun x3 T2 => if x3 = 0 then (ax_gr T2 v0 10 12 fun a4 => ax_ld T2 a4 v1 fun x5 => some (x5, T2)) else (some (0, T2))
def F_X10_many (N : Nat) (v0 : Nat) (v1 : Int32) (S : AxS) : Option (Int32 × AxS) :=
  ax_pi S v0 10 0 0 fun T1 => axB (F_X10_in N v1 0 3 T1) fun x3 T2 => if x3 = 0 then (F_X10_many_20 N  v0 v1 1 v0 T2) else (F_X10_many_20 N  v0 v1 0 v0 T2)

def F_X10_isNo (N : Nat) (v0 : Nat) (v1 : Int32) (v2 : Int32) (S : AxS) : Option (Int32 × AxS) :=
  ax_gr S v0 10 12 fun a1 => ax_ld S a1 v1 fun x2 => axB (F_X10_in N v2 0 (x2 - 1) S) fun x4 T3 => if x4 = 0 then (ax_rz 1 (some (1, T3))) else (ax_rz 0 (some (0, T3)))

def F_X10_monk_35 (N : Nat)  (v0 : Nat) (v1 : Int32) (v2 : Int32) (w0 : Int32) (w1 : Nat) (S : AxS) : Option (Int32 × AxS) :=
  ax_is S w1 10 <| axB (F_X10_bad N w1 w0 2 1 S) fun x3 T2 => if x3 = 0 then (if v2 = 0 then (ax_gr T2 v0 10 16 fun a4 => ax_ldr T2 a4 2 fun a5 => ax_ld T2 a5 v1 fun x6 => some (x6, T2)) else (if v2 = 1 then (ax_gr T2 v0 10 27 fun a8 => ax_ld T2 a8 (13 + v1) fun x9 => some (x9, T2)) else (if v2 = 2 then (ax_gr T2 v0 10 27 fun a11 => ax_gr T2 v0 10 27 fun a12 => ax_is T2 v0 10 <| axB (F_X10_strokesOf N v0 a12 T2) fun x15 T14 => ax_is T14 v0 10 <| axB (F_X10_isWaking N v0 a11 v1 x15 T14) fun x18 T17 => if x18 = 0 then (some (0, T17)) else (some (1, T17))) else (ax_gr T2 v0 10 27 fun a20 => ax_ld T2 a20 (21 + v1) fun x21 => some (x21, T2))))) else (some (0, T2))
def F_X10_monk (N : Nat) (v0 : Nat) (v1 : Int32) (v2 : Int32) (S : AxS) : Option (Int32 × AxS) :=
  ax_pi S v0 10 0 0 fun T1 => ax_is T1 v0 10 <| axB (F_X10_isNo N v0 2 v1 T1) fun x4 T3 => ax_is T3 v0 10 <| axB (F_X10_bad N v0 x4 1 0 T3) fun x7 T6 => if x7 = 0 then (axB (F_X10_in N v2 0 3 T6) fun x9 T8 => if x9 = 0 then (F_X10_monk_35 N  v0 v1 v2 1 v0 T8) else (F_X10_monk_35 N  v0 v1 v2 0 v0 T8)) else (some (0, T6))

def F_X10_village_35 (N : Nat)  (v0 : Nat) (v1 : Int32) (v2 : Int32) (w0 : Int32) (w1 : Nat) (S : AxS) : Option (Int32 × AxS) :=
  ax_is S w1 10 <| axB (F_X10_bad N w1 w0 2 1 S) fun x3 T2 => if x3 = 0 then (if v2 = 0 then (ax_gr T2 v0 10 16 fun a6 => ax_ldr T2 a6 0 fun a7 => ax_ld T2 a7 v1 fun x8 => some (x8, T2)) else (ax_gr T2 v0 10 27 fun a4 => ax_ld T2 a4 11 fun x5 => some ((x5 >>> (v1 &&& 31)) &&& 1, T2))) else (some (0, T2))
def F_X10_village (N : Nat) (v0 : Nat) (v1 : Int32) (v2 : Int32) (S : AxS) : Option (Int32 × AxS) :=
  ax_pi S v0 10 0 0 fun T1 => ax_is T1 v0 10 <| axB (F_X10_isNo N v0 0 v1 T1) fun x4 T3 => ax_is T3 v0 10 <| axB (F_X10_bad N v0 x4 1 0 T3) fun x7 T6 => if x7 = 0 then (axB (F_X10_in N v2 0 1 T6) fun x9 T8 => if x9 = 0 then (F_X10_village_35 N  v0 v1 v2 1 v0 T8) else (F_X10_village_35 N  v0 v1 v2 0 v0 T8)) else (some (0, T6))

def F_X10_cell (N : Nat) (v0 : Nat) (v1 : Int32) (S : AxS) : Option (Int32 × AxS) :=
  ax_pi S v0 10 0 0 fun T1 => ax_is T1 v0 10 <| axB (F_X10_isNo N v0 1 v1 T1) fun x4 T3 => ax_is T3 v0 10 <| axB (F_X10_bad N v0 x4 1 0 T3) fun x7 T6 => if x7 = 0 then (ax_gr T6 v0 10 16 fun a8 => ax_ldr T6 a8 1 fun a9 => ax_ld T6 a9 v1 fun x10 => some (x10, T6)) else (some (0, T6))

def F_X10_heir (N : Nat) (v0 : Nat) (v1 : Int32) (S : AxS) : Option (Int32 × AxS) :=
  ax_pi S v0 10 0 0 fun T1 => ax_is T1 v0 10 <| axB (F_X10_isNo N v0 3 v1 T1) fun x4 T3 => ax_is T3 v0 10 <| axB (F_X10_bad N v0 x4 1 0 T3) fun x7 T6 => if x7 = 0 then (ax_gr T6 v0 10 16 fun a8 => ax_ldr T6 a8 3 fun a9 => ax_ld T6 a9 v1 fun x10 => some (x10, T6)) else (some (0, T6))

def F_X10_strokes (N : Nat) (v0 : Nat) (S : AxS) : Option (Int32 × AxS) :=
  ax_pi S v0 10 0 0 fun T1 => ax_gr T1 v0 10 27 fun a2 => ax_is T1 v0 10 <| axB (F_X10_strokesOf N v0 a2 T1) fun x5 T4 => some (x5, T4)

def F_X10_would_88 (N : Nat)  (v0 : Nat) (v1 : Int32) (v2 : Int32) (v3 : Int32) (v4 : Int32) (v5 : Int32) (v6 : Int32) (v7 : Int32) (w0 : Int32) (w1 : Nat) (S : AxS) : Option (Int32 × AxS) :=
  ax_is S w1 10 <| axB (F_X10_bad N w1 w0 1 1 S) fun x3 T2 => if x3 = 0 then (ax_gr T2 v0 10 24 fun a4 => ax_st T2 a4 0 v1 fun T5 => ax_gr T5 v0 10 24 fun a6 => ax_st T5 a6 1 v2 fun T7 => ax_gr T7 v0 10 24 fun a8 => ax_st T7 a8 2 v3 fun T9 => ax_gr T9 v0 10 24 fun a10 => ax_st T9 a10 3 v4 fun T11 => ax_gr T11 v0 10 24 fun a12 => ax_st T11 a12 4 v5 fun T13 => ax_gr T13 v0 10 24 fun a14 => ax_st T13 a14 5 v6 fun T15 => ax_gr T15 v0 10 24 fun a16 => ax_st T15 a16 6 v7 fun T17 => ax_is T17 v0 10 <| axB (F_X10_byLaw N v0 T17) fun x20 T19 => some (x20, T19)) else (some (0, T2))
def F_X10_would_83 (N : Nat)  (v0 : Nat) (v1 : Int32) (v2 : Int32) (v3 : Int32) (v4 : Int32) (v5 : Int32) (v6 : Int32) (v7 : Int32) (w0 : Nat) (S : AxS) : Option (Int32 × AxS) :=
  F_X10_would_88 N  v0 v1 v2 v3 v4 v5 v6 v7 1 w0 S
def F_X10_would (N : Nat) (v0 : Nat) (v1 : Int32) (v2 : Int32) (v3 : Int32) (v4 : Int32) (v5 : Int32) (v6 : Int32) (v7 : Int32) (S : AxS) : Option (Int32 × AxS) :=
  ax_pi S v0 10 0 0 fun T1 => axB (F_X10_in N v1 0 99999 T1) fun x3 T2 => if x3 = 0 then (F_X10_would_83 N  v0 v1 v2 v3 v4 v5 v6 v7 v0 T2) else (axB (F_X10_in N v2 0 999 T2) fun x5 T4 => if x5 = 0 then (F_X10_would_83 N  v0 v1 v2 v3 v4 v5 v6 v7 v0 T4) else (axB (F_X10_in N v3 0 999 T4) fun x7 T6 => if x7 = 0 then (F_X10_would_83 N  v0 v1 v2 v3 v4 v5 v6 v7 v0 T6) else (axB (F_X10_in N v4 0 999 T6) fun x9 T8 => if x9 = 0 then (F_X10_would_83 N  v0 v1 v2 v3 v4 v5 v6 v7 v0 T8) else (axB (F_X10_in N v5 0 1 T8) fun x11 T10 => if x11 = 0 then (F_X10_would_83 N  v0 v1 v2 v3 v4 v5 v6 v7 v0 T10) else (axB (F_X10_in N v6 0 1 T10) fun x13 T12 => if x13 = 0 then (F_X10_would_83 N  v0 v1 v2 v3 v4 v5 v6 v7 v0 T12) else (axB (F_X10_in N v7 0 9999 T12) fun x15 T14 => if x15 = 0 then (F_X10_would_83 N  v0 v1 v2 v3 v4 v5 v6 v7 v0 T14) else (F_X10_would_88 N  v0 v1 v2 v3 v4 v5 v6 v7 0 v0 T14)))))))

def F_X10_noise_37 (N : Nat)  (v0 : Nat) (v1 : Int32) (v2 : Int32) (w0 : Int32) (w1 : Nat) (S : AxS) : Option (Int32 × AxS) :=
  ax_is S w1 10 <| axB (F_X10_bad N w1 w0 2 1 S) fun x3 T2 => if x3 = 0 then (ax_is T2 v0 10 <| axB (F_X10_noiseOf N v0 v1 v2 0 T2) fun x6 T5 => some (x6, T5)) else (some (0, T2))
def F_X10_noise (N : Nat) (v0 : Nat) (v1 : Int32) (v2 : Int32) (S : AxS) : Option (Int32 × AxS) :=
  ax_pi S v0 10 0 0 fun T1 => ax_is T1 v0 10 <| axB (F_X10_isNo N v0 1 v1 T1) fun x4 T3 => ax_is T3 v0 10 <| axB (F_X10_bad N v0 x4 1 0 T3) fun x7 T6 => if x7 = 0 then (axB (F_X10_in N v2 0 999 T6) fun x9 T8 => if x9 = 0 then (F_X10_noise_37 N  v0 v1 v2 1 v0 T8) else (F_X10_noise_37 N  v0 v1 v2 0 v0 T8)) else (some (0, T6))

def F_X10_sleepers_80 (N : Nat) (K36 : Nat → Int32 → Int32 → Int32 → AxS → Option (Int32 × AxS)) (v0 : Nat) (v1 : Int32) (v3 : Int32) (w0 : Int32) (w1 : Int32) (S : AxS) : Option (Int32 × AxS) :=
  K36 v0 v1 (w1 ||| w0) (v3 + 1) S
def F_X10_sleepers_36b (N : Nat) (K36 : Nat → Int32 → Int32 → Int32 → AxS → Option (Int32 × AxS)) (v0 : Nat) (v1 : Int32) (v2 : Int32) (v3 : Int32) (S : AxS) : Option (Int32 × AxS) :=
  ax_gr S v0 10 12 fun a1 => ax_ld S a1 2 fun x2 => if x2 ≤ v3 then (some (v2, S)) else (ax_gr S v0 10 27 fun a3 => ax_ld S a3 (13 + v3) fun x4 => ax_is S v0 10 <| axB (F_X10_noiseOf N v0 x4 v1 0 S) fun x7 T6 => ax_gr T6 v0 10 16 fun a8 => ax_ldr T6 a8 2 fun a9 => ax_ld T6 a9 v3 fun x10 => if x10 < x7 then (F_X10_sleepers_80 N K36 v0 v1 v3 0 v2 T6) else (F_X10_sleepers_80 N K36 v0 v1 v3 (1 <<< (v3 &&& 31)) v2 T6))
def F_X10_sleepers_36 (N : Nat)  : Nat → Nat → Int32 → Int32 → Int32 → AxS → Option (Int32 × AxS) := axIter (fun KK => F_X10_sleepers_36b N KK) (fun _ _ _ _ _ => none)
def F_X10_sleepers_22 (N : Nat)  (v0 : Nat) (v1 : Int32) (w0 : Int32) (w1 : Nat) (S : AxS) : Option (Int32 × AxS) :=
  ax_is S w1 10 <| axB (F_X10_bad N w1 w0 1 1 S) fun x3 T2 => if x3 = 0 then (F_X10_sleepers_36 N  N v0 v1 0 0 T2) else (some (0, T2))
def F_X10_sleepers (N : Nat) (v0 : Nat) (v1 : Int32) (S : AxS) : Option (Int32 × AxS) :=
  ax_pi S v0 10 0 0 fun T1 => axB (F_X10_in N v1 0 999 T1) fun x3 T2 => if x3 = 0 then (F_X10_sleepers_22 N  v0 v1 1 v0 T2) else (F_X10_sleepers_22 N  v0 v1 0 v0 T2)

def F_X10_bears_41b (N : Nat) (K41 : Nat → Int32 → Int32 → Int32 → AxS → Option (Int32 × AxS)) (v0 : Nat) (v1 : Int32) (v2 : Int32) (v3 : Int32) (S : AxS) : Option (Int32 × AxS) :=
  if 999 ≤ v3 then (some (v3, S)) else (ax_is S v0 10 <| axB (F_X10_noiseOf N v0 v2 (v3 + 1) 0 S) fun x3 T2 => ax_gr T2 v0 10 16 fun a4 => ax_ldr T2 a4 2 fun a5 => ax_ld T2 a5 v1 fun x6 => if x6 < x3 then (some (v3, T2)) else (K41 v0 v1 v2 (v3 + 1) T2))
def F_X10_bears_41 (N : Nat)  : Nat → Nat → Int32 → Int32 → Int32 → AxS → Option (Int32 × AxS) := axIter (fun KK => F_X10_bears_41b N KK) (fun _ _ _ _ _ => none)
def F_X10_bears_29 (N : Nat)  (v0 : Nat) (v1 : Int32) (v2 : Int32) (w0 : Int32) (w1 : Nat) (S : AxS) : Option (Int32 × AxS) :=
  ax_is S w1 10 <| axB (F_X10_bad N w1 w0 1 0 S) fun x3 T2 => if x3 = 0 then (F_X10_bears_41 N  N v0 v1 v2 0 T2) else (some (0, T2))
def F_X10_bears_24 (N : Nat)  (v0 : Nat) (v1 : Int32) (v2 : Int32) (w0 : Nat) (S : AxS) : Option (Int32 × AxS) :=
  F_X10_bears_29 N  v0 v1 v2 1 w0 S
def F_X10_bears (N : Nat) (v0 : Nat) (v1 : Int32) (v2 : Int32) (S : AxS) : Option (Int32 × AxS) :=
  ax_pi S v0 10 0 0 fun T1 => ax_is T1 v0 10 <| axB (F_X10_isNo N v0 2 v1 T1) fun x4 T3 => if x4 = 0 then (ax_is T3 v0 10 <| axB (F_X10_isNo N v0 1 v2 T3) fun x7 T6 => if x7 = 0 then (F_X10_bears_29 N  v0 v1 v2 0 v0 T6) else (F_X10_bears_24 N  v0 v1 v2 v0 T6)) else (F_X10_bears_24 N  v0 v1 v2 v0 T3)

def F_X10_grows_45b (N : Nat) (K45 : Nat → Int32 → Int32 → AxS → Option (Int32 × AxS)) (v0 : Nat) (v1 : Int32) (v2 : Int32) (S : AxS) : Option (Int32 × AxS) :=
  if 120 < v2 then (some ((-1), S)) else (ax_gr S v0 10 28 fun a1 => ax_ld S a1 0 fun x2 => if x2 < v1 then (ax_gr S v0 10 28 fun a3 => ax_is S v0 10 <| axBV (F_X10_nightEnds N v0 a3 S) fun T5 => K45 v0 v1 (v2 + 1) T5) else (some (v2, S)))
def F_X10_grows_45 (N : Nat)  : Nat → Nat → Int32 → Int32 → AxS → Option (Int32 × AxS) := axIter (fun KK => F_X10_grows_45b N KK) (fun _ _ _ _ => none)
def F_X10_grows_22 (N : Nat)  (v0 : Nat) (v1 : Int32) (w0 : Int32) (w1 : Nat) (S : AxS) : Option (Int32 × AxS) :=
  ax_is S w1 10 <| axB (F_X10_bad N w1 w0 1 1 S) fun x3 T2 => if x3 = 0 then (ax_gr T2 v0 10 27 fun a4 => ax_gr T2 v0 10 28 fun a5 => axBV (F_X10_copies N a4 a5 T2) fun T6 => F_X10_grows_45 N  N v0 v1 0 T6) else (some (0, T2))
def F_X10_grows (N : Nat) (v0 : Nat) (v1 : Int32) (S : AxS) : Option (Int32 × AxS) :=
  ax_pi S v0 10 0 0 fun T1 => axB (F_X10_in N v1 0 99999 T1) fun x3 T2 => if x3 = 0 then (F_X10_grows_22 N  v0 v1 1 v0 T2) else (F_X10_grows_22 N  v0 v1 0 v0 T2)

def F_X10_ahead_79 (N : Nat) (K56 : Nat → Int32 → Int32 → Int32 → Int32 → AxS → Option (Int32 × AxS)) (v0 : Nat) (v1 : Int32) (v2 : Int32) (v4 : Int32) (w0 : Int32) (w1 : Int32) (S : AxS) : Option (Int32 × AxS) :=
  ax_gr S v0 10 28 fun a1 => ax_is S v0 10 <| axBV (F_X10_nightEnds N v0 a1 S) fun T3 => K56 v0 v1 v2 (w1 + w0) (v4 + 1) T3
def F_X10_ahead_56b (N : Nat) (K56 : Nat → Int32 → Int32 → Int32 → Int32 → AxS → Option (Int32 × AxS)) (v0 : Nat) (v1 : Int32) (v2 : Int32) (v3 : Int32) (v4 : Int32) (S : AxS) : Option (Int32 × AxS) :=
  if v1 ≤ v4 then (if v2 = 0 then (ax_gr S v0 10 28 fun a1 => ax_ld S a1 9 fun x2 => ax_gr S v0 10 27 fun a3 => ax_ld S a3 9 fun x4 => some (x2 - x4, S)) else (if v2 = 1 then (ax_gr S v0 10 28 fun a6 => ax_ld S a6 0 fun x7 => some (x7, S)) else (if v2 = 2 then (ax_gr S v0 10 28 fun a9 => ax_ld S a9 10 fun x10 => ax_gr S v0 10 27 fun a11 => ax_ld S a11 10 fun x12 => some (x10 - x12, S)) else (some (v3, S))))) else (ax_gr S v0 10 28 fun a14 => ax_is S v0 10 <| axB (F_X10_strokesOf N v0 a14 S) fun x17 T16 => if x17 = 0 then (F_X10_ahead_79 N K56 v0 v1 v2 v4 1 v3 T16) else (F_X10_ahead_79 N K56 v0 v1 v2 v4 0 v3 T16))
def F_X10_ahead_56 (N : Nat)  : Nat → Nat → Int32 → Int32 → Int32 → Int32 → AxS → Option (Int32 × AxS) := axIter (fun KK => F_X10_ahead_56b N KK) (fun _ _ _ _ _ _ => none)
def F_X10_ahead_30 (N : Nat)  (v0 : Nat) (v1 : Int32) (v2 : Int32) (w0 : Int32) (w1 : Nat) (S : AxS) : Option (Int32 × AxS) :=
  ax_is S w1 10 <| axB (F_X10_bad N w1 w0 1 1 S) fun x3 T2 => if x3 = 0 then (ax_gr T2 v0 10 27 fun a4 => ax_gr T2 v0 10 28 fun a5 => axBV (F_X10_copies N a4 a5 T2) fun T6 => F_X10_ahead_56 N  N v0 v1 v2 0 0 T6) else (some (0, T2))
def F_X10_ahead_25 (N : Nat)  (v0 : Nat) (v1 : Int32) (v2 : Int32) (w0 : Nat) (S : AxS) : Option (Int32 × AxS) :=
  F_X10_ahead_30 N  v0 v1 v2 1 w0 S
def F_X10_ahead (N : Nat) (v0 : Nat) (v1 : Int32) (v2 : Int32) (S : AxS) : Option (Int32 × AxS) :=
  ax_pi S v0 10 0 0 fun T1 => axB (F_X10_in N v1 0 60 T1) fun x3 T2 => if x3 = 0 then (F_X10_ahead_25 N  v0 v1 v2 v0 T2) else (axB (F_X10_in N v2 0 3 T2) fun x5 T4 => if x5 = 0 then (F_X10_ahead_25 N  v0 v1 v2 v0 T4) else (F_X10_ahead_30 N  v0 v1 v2 0 v0 T4))

def F_X10_loudest_77 (N : Nat) (K48 : Nat → Int32 → Int32 → Int32 → Int32 → AxS → Option (Int32 × AxS)) (v0 : Nat) (v1 : Int32) (v2 : Int32) (v3 : Int32) (v4 : Int32) (S : AxS) : Option (Int32 × AxS) :=
  ax_gr S v0 10 28 fun a1 => ax_is S v0 10 <| axBV (F_X10_nightEnds N v0 a1 S) fun T3 => K48 v0 v1 v2 v3 (v4 + 1) T3
def F_X10_loudest_48b (N : Nat) (K48 : Nat → Int32 → Int32 → Int32 → Int32 → AxS → Option (Int32 × AxS)) (v0 : Nat) (v1 : Int32) (v2 : Int32) (v3 : Int32) (v4 : Int32) (S : AxS) : Option (Int32 × AxS) :=
  if 60 ≤ v4 then (if v1 = 0 then (some (v2, S)) else (some (v3, S))) else (ax_gr S v0 10 28 fun a1 => ax_is S v0 10 <| axB (F_X10_strokesOf N v0 a1 S) fun x4 T3 => if x4 ≤ v3 then (F_X10_loudest_77 N K48 v0 v1 v2 v3 v4 T3) else (F_X10_loudest_77 N K48 v0 v1 v4 x4 v4 T3))
def F_X10_loudest_48 (N : Nat)  : Nat → Nat → Int32 → Int32 → Int32 → Int32 → AxS → Option (Int32 × AxS) := axIter (fun KK => F_X10_loudest_48b N KK) (fun _ _ _ _ _ _ => none)
def F_X10_loudest_20 (N : Nat)  (v0 : Nat) (v1 : Int32) (w0 : Int32) (w1 : Nat) (S : AxS) : Option (Int32 × AxS) :=
  ax_is S w1 10 <| axB (F_X10_bad N w1 w0 1 1 S) fun x3 T2 => if x3 = 0 then (ax_gr T2 v0 10 27 fun a4 => ax_gr T2 v0 10 28 fun a5 => axBV (F_X10_copies N a4 a5 T2) fun T6 => F_X10_loudest_48 N  N v0 v1 0 ((-1)) 0 T6) else (some (0, T2))
def F_X10_loudest (N : Nat) (v0 : Nat) (v1 : Int32) (S : AxS) : Option (Int32 × AxS) :=
  ax_pi S v0 10 0 0 fun T1 => axB (F_X10_in N v1 0 1 T1) fun x3 T2 => if x3 = 0 then (F_X10_loudest_20 N  v0 v1 1 v0 T2) else (F_X10_loudest_20 N  v0 v1 0 v0 T2)

def F_X10_hush_34b (N : Nat) (K34 : Nat → Int32 → Int32 → AxS → Option (Int32 × AxS)) (v0 : Nat) (v1 : Int32) (v2 : Int32) (S : AxS) : Option (Int32 × AxS) :=
  if 999 < v2 then (some ((-1), S)) else (ax_gr S v0 10 27 fun a1 => ax_gr S v0 10 28 fun a2 => axBV (F_X10_copies N a1 a2 S) fun T3 => ax_gr T3 v0 10 28 fun a5 => axB (F_X10_pays N a5 v2 T3) fun x7 T6 => if x7 = 0 then (some ((-1), T6)) else (ax_gr T6 v0 10 28 fun a8 => ax_is T6 v0 10 <| axB (F_X10_strokesOf N v0 a8 T6) fun x11 T10 => if v1 < x11 then (K34 v0 v1 (v2 + 1) T10) else (some (v2, T10))))
def F_X10_hush_34 (N : Nat)  : Nat → Nat → Int32 → Int32 → AxS → Option (Int32 × AxS) := axIter (fun KK => F_X10_hush_34b N KK) (fun _ _ _ _ => none)
def F_X10_hush_22 (N : Nat)  (v0 : Nat) (v1 : Int32) (w0 : Int32) (w1 : Nat) (S : AxS) : Option (Int32 × AxS) :=
  ax_is S w1 10 <| axB (F_X10_bad N w1 w0 1 1 S) fun x3 T2 => if x3 = 0 then (F_X10_hush_34 N  N v0 v1 0 T2) else (some (0, T2))
def F_X10_hush (N : Nat) (v0 : Nat) (v1 : Int32) (S : AxS) : Option (Int32 × AxS) :=
  ax_pi S v0 10 0 0 fun T1 => axB (F_X10_in N v1 0 999 T1) fun x3 T2 => if x3 = 0 then (F_X10_hush_22 N  v0 v1 1 v0 T2) else (F_X10_hush_22 N  v0 v1 0 v0 T2)

def F_X10_isPlan_65 (N : Nat) (K14 : Nat → Int32 → Int32 → Int32 → Int32 → AxS → Option (Int32 × AxS)) (v0 : Nat) (v1 : Int32) (v2 : Int32) (v3 : Int32) (v4 : Int32) (S : AxS) : Option (Int32 × AxS) :=
  ax_gr S v0 10 28 fun a1 => ax_is S v0 10 <| axBV (F_X10_nightEnds N v0 a1 S) fun T3 => K14 v0 v1 v2 v3 (v4 + 1) T3
def F_X10_isPlan_14b (N : Nat) (K14 : Nat → Int32 → Int32 → Int32 → Int32 → AxS → Option (Int32 × AxS)) (v0 : Nat) (v1 : Int32) (v2 : Int32) (v3 : Int32) (v4 : Int32) (S : AxS) : Option (Int32 × AxS) :=
  if v1 ≤ v4 then (ax_rz 1 (some (1, S))) else (ax_gr S v0 10 28 fun a1 => ax_gr S v0 10 38 fun a2 => ax_ld S a2 v4 fun x3 => axB (F_X10_pays N a1 (10 * x3) S) fun x5 T4 => if x5 = 0 then (ax_rz 0 (some (0, T4))) else (axB (F_X10_has N v3 v4 T4) fun x7 T6 => if x7 = 0 then (F_X10_isPlan_65 N K14 v0 v1 v2 v3 v4 T6) else (ax_gr T6 v0 10 28 fun a8 => ax_is T6 v0 10 <| axB (F_X10_strokesOf N v0 a8 T6) fun x11 T10 => if x11 ≤ v2 then (F_X10_isPlan_65 N K14 v0 v1 v2 v3 v4 T10) else (ax_rz 0 (some (0, T10))))))
def F_X10_isPlan_14 (N : Nat)  : Nat → Nat → Int32 → Int32 → Int32 → Int32 → AxS → Option (Int32 × AxS) := axIter (fun KK => F_X10_isPlan_14b N KK) (fun _ _ _ _ _ _ => none)
def F_X10_isPlan (N : Nat) (v0 : Nat) (v1 : Int32) (v2 : Int32) (v3 : Int32) (S : AxS) : Option (Int32 × AxS) :=
  ax_gr S v0 10 27 fun a1 => ax_gr S v0 10 28 fun a2 => axBV (F_X10_copies N a1 a2 S) fun T3 => F_X10_isPlan_14 N  N v0 v1 v2 v3 0 T3

def F_X10_tens (N : Nat) (v0 : Int32) (S : AxS) : Option (Int32 × AxS) :=
  if 3 ≤ v0 then (some (4, S)) else (some (v0, S))

def F_X10_plan_203 (N : Nat) (K88 : Nat → Int32 → Int32 → Int32 → Int32 → Int32 → Int32 → Int32 → Int32 → AxS → Option (Int32 × AxS)) (v0 : Nat) (v1 : Int32) (v2 : Int32) (v3 : Int32) (v4 : Int32) (v5 : Int32) (v6 : Int32) (v7 : Int32) (v8 : Int32) (S : AxS) : Option (Int32 × AxS) :=
  K88 v0 v1 v2 v3 v4 v5 v6 v7 (v8 + 1) S
def F_X10_plan_182 (N : Nat) (K88 : Nat → Int32 → Int32 → Int32 → Int32 → Int32 → Int32 → Int32 → Int32 → AxS → Option (Int32 × AxS)) (v0 : Nat) (v1 : Int32) (v2 : Int32) (v3 : Int32) (v4 : Int32) (v5 : Int32) (v6 : Int32) (v7 : Int32) (v8 : Int32) (v9 : Int32) (v10 : Int32) (S : AxS) : Option (Int32 × AxS) :=
  ax_is S v0 10 <| axB (F_X10_isPlan N v0 v1 v2 v3 S) fun x3 T2 => if x3 = 0 then (F_X10_plan_203 N K88 v0 v1 v2 v3 v4 v5 v6 v7 v8 T2) else (F_X10_plan_203 N K88 v0 v1 v2 v3 v4 v5 v9 v10 v8 T2)
def F_X10_plan_104b (N : Nat) (K88 : Nat → Int32 → Int32 → Int32 → Int32 → Int32 → Int32 → Int32 → Int32 → AxS → Option (Int32 × AxS)) (K104 : Nat → Int32 → Int32 → Int32 → Int32 → Int32 → Int32 → Int32 → Int32 → Int32 → Int32 → Int32 → AxS → Option (Int32 × AxS)) (v0 : Nat) (v1 : Int32) (v2 : Int32) (v3 : Int32) (v4 : Int32) (v5 : Int32) (v6 : Int32) (v7 : Int32) (v8 : Int32) (v9 : Int32) (v10 : Int32) (v11 : Int32) (S : AxS) : Option (Int32 × AxS) :=
  if v1 ≤ v11 then (if v6 = ((-1)) then (F_X10_plan_182 N K88 v0 v1 v2 v3 v4 v5 v6 v7 v8 v9 v10 S) else (if v6 ≤ v9 then (F_X10_plan_203 N K88 v0 v1 v2 v3 v4 v5 v6 v7 v8 S) else (F_X10_plan_182 N K88 v0 v1 v2 v3 v4 v5 v6 v7 v8 v9 v10 S))) else (ax_gr S v0 10 38 fun a1 => axB (F_X10_tens N ((v8 >>> ((2 * ((v1 - 1) - v11)) &&& 31)) &&& 3) S) fun x3 T2 => ax_st T2 a1 v11 x3 fun T4 => ax_gr T4 v0 10 38 fun a5 => ax_ld T4 a5 v11 fun x6 => ax_gr T4 v0 10 38 fun a7 => ax_ld T4 a7 v11 fun x8 => K104 v0 v1 v2 v3 v4 v5 v6 v7 v8 (v9 + (10 * x6)) ((10 * v10) + x8) (v11 + 1) T4)
def F_X10_plan_104 (N : Nat) (K88 : Nat → Int32 → Int32 → Int32 → Int32 → Int32 → Int32 → Int32 → Int32 → AxS → Option (Int32 × AxS)) : Nat → Nat → Int32 → Int32 → Int32 → Int32 → Int32 → Int32 → Int32 → Int32 → Int32 → Int32 → Int32 → AxS → Option (Int32 × AxS) := axIter (fun KK => F_X10_plan_104b N K88 KK) (fun _ _ _ _ _ _ _ _ _ _ _ _ _ => none)
def F_X10_plan_88b (N : Nat) (K88 : Nat → Int32 → Int32 → Int32 → Int32 → Int32 → Int32 → Int32 → Int32 → AxS → Option (Int32 × AxS)) (v0 : Nat) (v1 : Int32) (v2 : Int32) (v3 : Int32) (v4 : Int32) (v5 : Int32) (v6 : Int32) (v7 : Int32) (v8 : Int32) (S : AxS) : Option (Int32 × AxS) :=
  if v5 ≤ v8 then (if v4 = 0 then (some (v6, S)) else (some (v7, S))) else (F_X10_plan_104 N K88 N v0 v1 v2 v3 v4 v5 v6 v7 v8 0 0 0 S)
def F_X10_plan_88 (N : Nat)  : Nat → Nat → Int32 → Int32 → Int32 → Int32 → Int32 → Int32 → Int32 → Int32 → AxS → Option (Int32 × AxS) := axIter (fun KK => F_X10_plan_88b N KK) (fun _ _ _ _ _ _ _ _ _ _ => none)
def F_X10_plan_62 (N : Nat)  (v0 : Nat) (v1 : Int32) (v2 : Int32) (v3 : Int32) (v4 : Int32) (w0 : Int32) (w1 : Nat) (S : AxS) : Option (Int32 × AxS) :=
  ax_is S w1 10 <| axB (F_X10_bad N w1 w0 1 1 S) fun x3 T2 => if x3 = 0 then (F_X10_plan_88 N  N v0 v1 v2 v3 v4 (1 <<< ((2 * v1) &&& 31)) ((-1)) ((-1)) 0 T2) else (some (0, T2))
def F_X10_plan_57 (N : Nat)  (v0 : Nat) (v1 : Int32) (v2 : Int32) (v3 : Int32) (v4 : Int32) (w0 : Nat) (S : AxS) : Option (Int32 × AxS) :=
  F_X10_plan_62 N  v0 v1 v2 v3 v4 1 w0 S
def F_X10_plan (N : Nat) (v0 : Nat) (v1 : Int32) (v2 : Int32) (v3 : Int32) (v4 : Int32) (S : AxS) : Option (Int32 × AxS) :=
  ax_pi S v0 10 0 0 fun T1 => axB (F_X10_in N v1 0 5 T1) fun x3 T2 => if x3 = 0 then (F_X10_plan_57 N  v0 v1 v2 v3 v4 v0 T2) else (axB (F_X10_in N v2 0 999 T2) fun x5 T4 => if x5 = 0 then (F_X10_plan_57 N  v0 v1 v2 v3 v4 v0 T4) else (axB (F_X10_more N 0 v1 T4) fun x7 T6 => axB (F_X10_less N 5 x7 T6) fun x9 T8 => axB (F_X10_in N v3 0 ((1 <<< (x9 &&& 31)) - 1) T8) fun x11 T10 => if x11 = 0 then (F_X10_plan_57 N  v0 v1 v2 v3 v4 v0 T10) else (axB (F_X10_in N v4 0 1 T10) fun x13 T12 => if x13 = 0 then (F_X10_plan_57 N  v0 v1 v2 v3 v4 v0 T12) else (F_X10_plan_62 N  v0 v1 v2 v3 v4 0 v0 T12))))

def F_X10_strikesBy_103 (N : Nat) (K11 : Nat → Int32 → Int32 → AxS → Option (AxS)) (v0 : Nat) (v2 : Int32) (v3 : Int32) (S : AxS) : Option (AxS) :=
  ax_gr S v0 10 28 fun a1 => ax_ld S a1 2 fun x2 => ax_st S a1 2 (x2 + 1) fun T3 => K11 v0 v2 (v3 + 1) T3
def F_X10_strikesBy_57 (N : Nat) (K11 : Nat → Int32 → Int32 → AxS → Option (AxS)) (v0 : Nat) (v2 : Int32) (v3 : Int32) (w0 : Int32) (w1 : Int32) (w2 : Nat) (S : AxS) : Option (AxS) :=
  ax_st S w2 w1 w0 fun T1 => ax_gr T1 v0 10 28 fun a2 => ax_gr T1 v0 10 28 fun a3 => ax_ld T1 a3 1 fun x4 => ax_gr T1 v0 10 14 fun a5 => ax_ne 12 <| ax_ld T1 a5 (v3 - v3 / 12 * 12) fun x6 => axB (F_X10_less N 9999 (x4 + x6) T1) fun x8 T7 => ax_st T7 a2 1 x8 fun T9 => ax_ne 12 <| if (v3 - v3 / 12 * 12) = 11 then (ax_gr T9 v0 10 28 fun a10 => axBV (F_X10_earns N a10 v2 T9) fun T11 => F_X10_strikesBy_103 N K11 v0 v2 v3 T11) else (F_X10_strikesBy_103 N K11 v0 v2 v3 T9)
def F_X10_strikesBy_11b (N : Nat) (K11 : Nat → Int32 → Int32 → AxS → Option (AxS)) (v0 : Nat) (v2 : Int32) (v3 : Int32) (S : AxS) : Option (AxS) :=
  if 60 ≤ v3 then (some S) else (ax_gr S v0 10 39 fun a1 => ax_gr S v0 10 28 fun a2 => ax_is S v0 10 <| axB (F_X10_strokesOf N v0 a2 S) fun x5 T4 => ax_st T4 a1 v3 x5 fun T6 => ax_gr T6 v0 10 28 fun a7 => ax_gr T6 v0 10 39 fun a8 => ax_ld T6 a8 v3 fun x9 => if x9 = 0 then (ax_gr T6 v0 10 28 fun a10 => ax_ld T6 a10 3 fun x11 => F_X10_strikesBy_57 N K11 v0 v2 v3 (x11 + 1) 3 a7 T6) else (F_X10_strikesBy_57 N K11 v0 v2 v3 0 3 a7 T6))
def F_X10_strikesBy_11 (N : Nat)  : Nat → Nat → Int32 → Int32 → AxS → Option (AxS) := axIter (fun KK => F_X10_strikesBy_11b N KK) (fun _ _ _ _ => none)
def F_X10_strikesBy (N : Nat) (v0 : Nat) (v1 : Int32) (v2 : Int32) (S : AxS) : Option (AxS) :=
  ax_gr S v0 10 28 fun a1 => ax_is S v0 10 <| axBV (F_X10_begins N v0 a1 v1 S) fun T3 => F_X10_strikesBy_11 N  N v0 v2 0 T3

def F_X10_isStruck_2b (N : Nat) (K2 : Nat → Int32 → AxS → Option (Int32 × AxS)) (v0 : Nat) (v1 : Int32) (S : AxS) : Option (Int32 × AxS) :=
  ax_gi S v0 10 31 fun x1 => if x1 ≤ v1 then (ax_rz 1 (some (1, S))) else (ax_gr S v0 10 39 fun a2 => ax_gr S v0 10 21 fun a3 => ax_ldr S a3 v1 fun a4 => ax_ld S a4 0 fun x5 => ax_ld S a2 x5 fun x6 => ax_gr S v0 10 21 fun a7 => ax_ldr S a7 v1 fun a8 => ax_ld S a8 1 fun x9 => if x6 = x9 then (K2 v0 (v1 + 1) S) else (ax_rz 0 (some (0, S))))
def F_X10_isStruck_2 (N : Nat)  : Nat → Nat → Int32 → AxS → Option (Int32 × AxS) := axIter (fun KK => F_X10_isStruck_2b N KK) (fun _ _ _ => none)
def F_X10_isStruck (N : Nat) (v0 : Nat) (S : AxS) : Option (Int32 × AxS) :=
  F_X10_isStruck_2 N  N v0 0 S

def F_X10_fits_130 (N : Nat) (K57 : Nat → Int32 → Int32 → Int32 → Int32 → Int32 → Int32 → Int32 → Int32 → AxS → Option (Int32 × AxS)) (v0 : Nat) (v1 : Int32) (v2 : Int32) (v3 : Int32) (v4 : Int32) (v5 : Int32) (v6 : Int32) (v7 : Int32) (v8 : Int32) (S : AxS) : Option (Int32 × AxS) :=
  K57 v0 v1 v2 v3 v4 v5 v6 v7 (v8 + 1) S
def F_X10_fits_120 (N : Nat) (K57 : Nat → Int32 → Int32 → Int32 → Int32 → Int32 → Int32 → Int32 → Int32 → AxS → Option (Int32 × AxS)) (v0 : Nat) (v1 : Int32) (v2 : Int32) (v3 : Int32) (v4 : Int32) (v7 : Int32) (v8 : Int32) (w0 : Int32) (w1 : Int32) (S : AxS) : Option (Int32 × AxS) :=
  F_X10_fits_130 N K57 v0 v1 (v2 + 1) v3 v4 (w1 + w0) v7 v7 v8 S
def F_X10_fits_104 (N : Nat) (K57 : Nat → Int32 → Int32 → Int32 → Int32 → Int32 → Int32 → Int32 → Int32 → AxS → Option (Int32 × AxS)) (v0 : Nat) (v1 : Int32) (v2 : Int32) (v3 : Int32) (v5 : Int32) (v6 : Int32) (v7 : Int32) (v8 : Int32) (w0 : Int32) (S : AxS) : Option (Int32 × AxS) :=
  if v7 = v6 then (F_X10_fits_120 N K57 v0 v1 v2 v3 w0 v7 v8 0 v5 S) else (F_X10_fits_120 N K57 v0 v1 v2 v3 w0 v7 v8 1 v5 S)
def F_X10_fits_92 (N : Nat) (K57 : Nat → Int32 → Int32 → Int32 → Int32 → Int32 → Int32 → Int32 → Int32 → AxS → Option (Int32 × AxS)) (v0 : Nat) (v1 : Int32) (v2 : Int32) (v4 : Int32) (v5 : Int32) (v6 : Int32) (v7 : Int32) (v8 : Int32) (w0 : Int32) (S : AxS) : Option (Int32 × AxS) :=
  if v2 = 0 then (F_X10_fits_104 N K57 v0 v1 v2 w0 v5 v6 v7 v8 v8 S) else (F_X10_fits_104 N K57 v0 v1 v2 w0 v5 v6 v7 v8 v4 S)
def F_X10_fits_57b (N : Nat) (K46 : Nat → Int32 → Int32 → Int32 → Int32 → Int32 → Int32 → Int32 → AxS → Option (Int32 × AxS)) (K57 : Nat → Int32 → Int32 → Int32 → Int32 → Int32 → Int32 → Int32 → Int32 → AxS → Option (Int32 × AxS)) (v0 : Nat) (v1 : Int32) (v2 : Int32) (v3 : Int32) (v4 : Int32) (v5 : Int32) (v6 : Int32) (v7 : Int32) (v8 : Int32) (S : AxS) : Option (Int32 × AxS) :=
  if 21 ≤ v8 then (K46 v0 v1 v2 v3 v4 v5 v6 (v7 + 1) S) else (ax_is S v0 10 <| axBV (F_X10_strikesBy N v0 v7 v8 S) fun T2 => ax_is T2 v0 10 <| axB (F_X10_isStruck N v0 T2) fun x6 T5 => if x6 = 0 then (F_X10_fits_130 N K57 v0 v1 v2 v3 v4 v5 v6 v7 v8 T5) else (if v2 = 0 then (F_X10_fits_92 N K57 v0 v1 v2 v4 v5 v6 v7 v8 v7 T5) else (F_X10_fits_92 N K57 v0 v1 v2 v4 v5 v6 v7 v8 v3 T5)))
def F_X10_fits_57 (N : Nat) (K46 : Nat → Int32 → Int32 → Int32 → Int32 → Int32 → Int32 → Int32 → AxS → Option (Int32 × AxS)) : Nat → Nat → Int32 → Int32 → Int32 → Int32 → Int32 → Int32 → Int32 → Int32 → AxS → Option (Int32 × AxS) := axIter (fun KK => F_X10_fits_57b N K46 KK) (fun _ _ _ _ _ _ _ _ _ _ => none)
def F_X10_fits_46b (N : Nat) (K46 : Nat → Int32 → Int32 → Int32 → Int32 → Int32 → Int32 → Int32 → AxS → Option (Int32 × AxS)) (v0 : Nat) (v1 : Int32) (v2 : Int32) (v3 : Int32) (v4 : Int32) (v5 : Int32) (v6 : Int32) (v7 : Int32) (S : AxS) : Option (Int32 × AxS) :=
  if 200 ≤ v7 then (if v1 = 0 then (some (v2, S)) else (if v1 = 1 then (some (v3, S)) else (if v1 = 2 then (some (v4, S)) else (some (v5, S))))) else (F_X10_fits_57 N K46 N v0 v1 v2 v3 v4 v5 v6 v7 0 S)
def F_X10_fits_46 (N : Nat)  : Nat → Nat → Int32 → Int32 → Int32 → Int32 → Int32 → Int32 → Int32 → AxS → Option (Int32 × AxS) := axIter (fun KK => F_X10_fits_46b N KK) (fun _ _ _ _ _ _ _ _ _ => none)
def F_X10_fits_20 (N : Nat)  (v0 : Nat) (v1 : Int32) (w0 : Int32) (w1 : Nat) (S : AxS) : Option (Int32 × AxS) :=
  ax_is S w1 10 <| axB (F_X10_bad N w1 w0 1 1 S) fun x3 T2 => if x3 = 0 then (F_X10_fits_46 N  N v0 v1 0 ((-1)) ((-1)) 0 ((-1)) 0 T2) else (some (0, T2))
def F_X10_fits (N : Nat) (v0 : Nat) (v1 : Int32) (S : AxS) : Option (Int32 × AxS) :=
  ax_pi S v0 10 0 0 fun T1 => axB (F_X10_in N v1 0 3 T1) fun x3 T2 => if x3 = 0 then (F_X10_fits_20 N  v0 v1 1 v0 T2) else (F_X10_fits_20 N  v0 v1 0 v0 T2)

def F_X10_isCounted_2b (N : Nat) (K2 : Nat → Int32 → Int32 → AxS → Option (Int32 × AxS)) (v0 : Nat) (v1 : Int32) (v2 : Int32) (S : AxS) : Option (Int32 × AxS) :=
  ax_gi S v0 10 31 fun x1 => if x1 ≤ v2 then (ax_rz 0 (some (0, S))) else (ax_gr S v0 10 21 fun a2 => ax_ldr S a2 v2 fun a3 => ax_ld S a3 0 fun x4 => if x4 = v1 then (ax_rz 1 (some (1, S))) else (K2 v0 v1 (v2 + 1) S))
def F_X10_isCounted_2 (N : Nat)  : Nat → Nat → Int32 → Int32 → AxS → Option (Int32 × AxS) := axIter (fun KK => F_X10_isCounted_2b N KK) (fun _ _ _ _ => none)
def F_X10_isCounted (N : Nat) (v0 : Nat) (v1 : Int32) (S : AxS) : Option (Int32 × AxS) :=
  F_X10_isCounted_2 N  N v0 v1 0 S

def F_X10_count_237 (N : Nat) (K164 : Nat → Int32 → Int32 → Int32 → Int32 → AxS → Option (Int32 × AxS)) (v0 : Nat) (v1 : Int32) (v2 : Int32) (v3 : Int32) (v4 : Int32) (S : AxS) : Option (Int32 × AxS) :=
  K164 v0 v1 v2 v3 (v4 + 1) S
def F_X10_count_231 (N : Nat) (K164 : Nat → Int32 → Int32 → Int32 → Int32 → AxS → Option (Int32 × AxS)) (v0 : Nat) (v1 : Int32) (v4 : Int32) (v5 : Int32) (S : AxS) : Option (Int32 × AxS) :=
  F_X10_count_237 N K164 v0 v1 v4 v5 v4 S
def F_X10_count_177b (N : Nat) (K164 : Nat → Int32 → Int32 → Int32 → Int32 → AxS → Option (Int32 × AxS)) (K177 : Nat → Int32 → Int32 → Int32 → Int32 → Int32 → Int32 → AxS → Option (Int32 × AxS)) (v0 : Nat) (v1 : Int32) (v2 : Int32) (v3 : Int32) (v4 : Int32) (v5 : Int32) (v6 : Int32) (S : AxS) : Option (Int32 × AxS) :=
  if 999 < v6 then (ax_is S v0 10 <| axB (F_X10_isCounted N v0 v4 S) fun x3 T2 => if x3 = 0 then (if v2 = ((-1)) then (F_X10_count_231 N K164 v0 v1 v4 v5 T2) else (if v5 < v3 then (F_X10_count_231 N K164 v0 v1 v4 v5 T2) else (F_X10_count_237 N K164 v0 v1 v2 v3 v4 T2))) else (F_X10_count_237 N K164 v0 v1 v2 v3 v4 T2)) else (ax_gr S v0 10 40 fun a4 => ax_ldr S a4 v4 fun a5 => ax_ld S a5 v6 fun x6 => axB (F_X10_more N v5 x6 S) fun x8 T7 => K177 v0 v1 v2 v3 v4 x8 (v6 + 1) T7)
def F_X10_count_177 (N : Nat) (K164 : Nat → Int32 → Int32 → Int32 → Int32 → AxS → Option (Int32 × AxS)) : Nat → Nat → Int32 → Int32 → Int32 → Int32 → Int32 → Int32 → AxS → Option (Int32 × AxS) := axIter (fun KK => F_X10_count_177b N K164 KK) (fun _ _ _ _ _ _ _ _ => none)
def F_X10_count_164b (N : Nat) (K164 : Nat → Int32 → Int32 → Int32 → Int32 → AxS → Option (Int32 × AxS)) (v0 : Nat) (v1 : Int32) (v2 : Int32) (v3 : Int32) (v4 : Int32) (S : AxS) : Option (Int32 × AxS) :=
  if 60 ≤ v4 then (if v1 = 0 then (some (v2, S)) else (some (v3, S))) else (F_X10_count_177 N K164 N v0 v1 v2 v3 v4 0 0 S)
def F_X10_count_164 (N : Nat)  : Nat → Nat → Int32 → Int32 → Int32 → Int32 → AxS → Option (Int32 × AxS) := axIter (fun KK => F_X10_count_164b N KK) (fun _ _ _ _ _ _ => none)
def F_X10_count_149 (N : Nat) (K92 : Nat → Int32 → Int32 → Int32 → Int32 → Int32 → AxS → Option (Int32 × AxS)) (v0 : Nat) (v1 : Int32) (v2 : Int32) (v3 : Int32) (v4 : Int32) (v5 : Int32) (S : AxS) : Option (Int32 × AxS) :=
  K92 v0 v1 v2 v3 v4 (v5 + 1) S
def F_X10_count_110b (N : Nat) (K92 : Nat → Int32 → Int32 → Int32 → Int32 → Int32 → AxS → Option (Int32 × AxS)) (K110 : Nat → Int32 → Int32 → Int32 → Int32 → Int32 → Int32 → AxS → Option (Int32 × AxS)) (v0 : Nat) (v1 : Int32) (v2 : Int32) (v3 : Int32) (v4 : Int32) (v5 : Int32) (v6 : Int32) (S : AxS) : Option (Int32 × AxS) :=
  if 60 ≤ v6 then (F_X10_count_149 N K92 v0 v1 v2 v3 v4 v5 S) else (ax_is S v0 10 <| axB (F_X10_isStruck N v0 S) fun x3 T2 => if x3 = 0 then (F_X10_count_149 N K92 v0 v1 v2 v3 v4 v5 T2) else (ax_gr T2 v0 10 40 fun a4 => ax_ldr T2 a4 v6 fun a5 => ax_gr T2 v0 10 39 fun a6 => ax_ld T2 a6 v6 fun x7 => ax_ld T2 a5 x7 fun x8 => ax_st T2 a5 x7 (x8 + 1) fun T9 => K110 v0 v1 v2 v3 v4 v5 (v6 + 1) T9))
def F_X10_count_110 (N : Nat) (K92 : Nat → Int32 → Int32 → Int32 → Int32 → Int32 → AxS → Option (Int32 × AxS)) : Nat → Nat → Int32 → Int32 → Int32 → Int32 → Int32 → Int32 → AxS → Option (Int32 × AxS) := axIter (fun KK => F_X10_count_110b N K92 KK) (fun _ _ _ _ _ _ _ _ => none)
def F_X10_count_92b (N : Nat) (K81 : Nat → Int32 → Int32 → Int32 → Int32 → AxS → Option (Int32 × AxS)) (K92 : Nat → Int32 → Int32 → Int32 → Int32 → Int32 → AxS → Option (Int32 × AxS)) (v0 : Nat) (v1 : Int32) (v2 : Int32) (v3 : Int32) (v4 : Int32) (v5 : Int32) (S : AxS) : Option (Int32 × AxS) :=
  if 21 ≤ v5 then (K81 v0 v1 v2 v3 (v4 + 1) S) else (ax_is S v0 10 <| axBV (F_X10_strikesBy N v0 v4 v5 S) fun T2 => F_X10_count_110 N K92 N v0 v1 v2 v3 v4 v5 0 T2)
def F_X10_count_92 (N : Nat) (K81 : Nat → Int32 → Int32 → Int32 → Int32 → AxS → Option (Int32 × AxS)) : Nat → Nat → Int32 → Int32 → Int32 → Int32 → Int32 → AxS → Option (Int32 × AxS) := axIter (fun KK => F_X10_count_92b N K81 KK) (fun _ _ _ _ _ _ _ => none)
def F_X10_count_81b (N : Nat) (K81 : Nat → Int32 → Int32 → Int32 → Int32 → AxS → Option (Int32 × AxS)) (v0 : Nat) (v1 : Int32) (v2 : Int32) (v3 : Int32) (v4 : Int32) (S : AxS) : Option (Int32 × AxS) :=
  if 200 ≤ v4 then (F_X10_count_164 N  N v0 v1 v2 v3 0 S) else (F_X10_count_92 N K81 N v0 v1 v2 v3 v4 0 S)
def F_X10_count_81 (N : Nat)  : Nat → Nat → Int32 → Int32 → Int32 → Int32 → AxS → Option (Int32 × AxS) := axIter (fun KK => F_X10_count_81b N KK) (fun _ _ _ _ _ _ => none)
def F_X10_count_47b (N : Nat) (K37 : Nat → Int32 → Int32 → Int32 → Int32 → AxS → Option (Int32 × AxS)) (K47 : Nat → Int32 → Int32 → Int32 → Int32 → Int32 → AxS → Option (Int32 × AxS)) (v0 : Nat) (v1 : Int32) (v2 : Int32) (v3 : Int32) (v4 : Int32) (v5 : Int32) (S : AxS) : Option (Int32 × AxS) :=
  if 999 < v5 then (K37 v0 v1 v2 v3 (v4 + 1) S) else (ax_gr S v0 10 40 fun a1 => ax_ldr S a1 v4 fun a2 => ax_st S a2 v5 0 fun T3 => K47 v0 v1 v2 v3 v4 (v5 + 1) T3)
def F_X10_count_47 (N : Nat) (K37 : Nat → Int32 → Int32 → Int32 → Int32 → AxS → Option (Int32 × AxS)) : Nat → Nat → Int32 → Int32 → Int32 → Int32 → Int32 → AxS → Option (Int32 × AxS) := axIter (fun KK => F_X10_count_47b N K37 KK) (fun _ _ _ _ _ _ _ => none)
def F_X10_count_37b (N : Nat) (K37 : Nat → Int32 → Int32 → Int32 → Int32 → AxS → Option (Int32 × AxS)) (v0 : Nat) (v1 : Int32) (v2 : Int32) (v3 : Int32) (v4 : Int32) (S : AxS) : Option (Int32 × AxS) :=
  if 60 ≤ v4 then (F_X10_count_81 N  N v0 v1 v2 v3 0 S) else (F_X10_count_47 N K37 N v0 v1 v2 v3 v4 0 S)
def F_X10_count_37 (N : Nat)  : Nat → Nat → Int32 → Int32 → Int32 → Int32 → AxS → Option (Int32 × AxS) := axIter (fun KK => F_X10_count_37b N KK) (fun _ _ _ _ _ _ => none)
def F_X10_count_20 (N : Nat)  (v0 : Nat) (v1 : Int32) (w0 : Int32) (w1 : Nat) (S : AxS) : Option (Int32 × AxS) :=
  ax_is S w1 10 <| axB (F_X10_bad N w1 w0 1 1 S) fun x3 T2 => if x3 = 0 then (F_X10_count_37 N  N v0 v1 ((-1)) ((-1)) 0 T2) else (some (0, T2))
def F_X10_count (N : Nat) (v0 : Nat) (v1 : Int32) (S : AxS) : Option (Int32 × AxS) :=
  ax_pi S v0 10 0 0 fun T1 => axB (F_X10_in N v1 0 1 T1) fun x3 T2 => if x3 = 0 then (F_X10_count_20 N  v0 v1 1 v0 T2) else (F_X10_count_20 N  v0 v1 0 v0 T2)

def F_X10_dulls_110b (N : Nat) (K110 : Nat → Int32 → Int64 → Int32 → AxS → Option (Int64 × AxS)) (v0 : Nat) (v1 : Int32) (v4 : Int64) (v6 : Int32) (S : AxS) : Option (Int64 × AxS) :=
  if v1 < v6 then (some (v4, S)) else (ax_gr S v0 10 41 fun a1 => ax_ldl S a1 v6 fun x2 => K110 v0 v1 (v4 + x2) (v6 + 1) S)
def F_X10_dulls_110 (N : Nat)  : Nat → Nat → Int32 → Int64 → Int32 → AxS → Option (Int64 × AxS) := axIter (fun KK => F_X10_dulls_110b N KK) (fun _ _ _ _ _ => none)
def F_X10_dulls_90 (N : Nat) (K45 : Nat → Int32 → Int32 → Int32 → Int32 → Int32 → AxS → Option (Int64 × AxS)) (v0 : Nat) (v1 : Int32) (v2 : Int32) (v3 : Int32) (v4 : Int32) (v5 : Int32) (w0 : Int64) (w1 : Int64) (w2 : Int32) (w3 : Nat) (S : AxS) : Option (Int64 × AxS) :=
  ax_stl S w3 w2 (w1 + w0) fun T1 => K45 v0 v1 v2 v3 v4 (v5 + (-1)) T1
def F_X10_dulls_45b (N : Nat) (K36 : Nat → Int32 → Int32 → Int32 → Int32 → AxS → Option (Int64 × AxS)) (K45 : Nat → Int32 → Int32 → Int32 → Int32 → Int32 → AxS → Option (Int64 × AxS)) (v0 : Nat) (v1 : Int32) (v2 : Int32) (v3 : Int32) (v4 : Int32) (v5 : Int32) (S : AxS) : Option (Int64 × AxS) :=
  if v5 < 0 then (K36 v0 v1 v2 v3 (v4 + 1) S) else (ax_gr S v0 10 41 fun a1 => ax_gr S v0 10 41 fun a2 => ax_ldl S a2 v5 fun x3 => if v5 = 0 then (F_X10_dulls_90 N K45 v0 v1 v2 v3 v4 v5 0 (x3 * (Int32.toInt64 (16 - v2))) v5 a1 S) else (ax_gr S v0 10 41 fun a4 => ax_ldl S a4 (v5 - 1) fun x5 => F_X10_dulls_90 N K45 v0 v1 v2 v3 v4 v5 (x5 * (Int32.toInt64 v2)) (x3 * (Int32.toInt64 (16 - v2))) v5 a1 S))
def F_X10_dulls_45 (N : Nat) (K36 : Nat → Int32 → Int32 → Int32 → Int32 → AxS → Option (Int64 × AxS)) : Nat → Nat → Int32 → Int32 → Int32 → Int32 → Int32 → AxS → Option (Int64 × AxS) := axIter (fun KK => F_X10_dulls_45b N K36 KK) (fun _ _ _ _ _ _ _ => none)
def F_X10_dulls_36b (N : Nat) (K36 : Nat → Int32 → Int32 → Int32 → Int32 → AxS → Option (Int64 × AxS)) (v0 : Nat) (v1 : Int32) (v2 : Int32) (v3 : Int32) (v4 : Int32) (S : AxS) : Option (Int64 × AxS) :=
  if v1 ≤ v4 then (F_X10_dulls_110 N  N v0 v1 0 v3 S) else (F_X10_dulls_45 N K36 N v0 v1 v2 v3 v4 v1 S)
def F_X10_dulls_36 (N : Nat)  : Nat → Nat → Int32 → Int32 → Int32 → Int32 → AxS → Option (Int64 × AxS) := axIter (fun KK => F_X10_dulls_36b N KK) (fun _ _ _ _ _ _ => none)
def F_X10_dulls_26 (N : Nat) (K3 : Nat → Int32 → Int32 → Int32 → Int32 → AxS → Option (Int64 × AxS)) (v0 : Nat) (v1 : Int32) (v2 : Int32) (v3 : Int32) (v4 : Int32) (w0 : Int64) (w1 : Int32) (w2 : Nat) (S : AxS) : Option (Int64 × AxS) :=
  ax_stl S w2 w1 w0 fun T1 => K3 v0 v1 v2 v3 (v4 + 1) T1
def F_X10_dulls_3b (N : Nat) (K3 : Nat → Int32 → Int32 → Int32 → Int32 → AxS → Option (Int64 × AxS)) (v0 : Nat) (v1 : Int32) (v2 : Int32) (v3 : Int32) (v4 : Int32) (S : AxS) : Option (Int64 × AxS) :=
  if 10 ≤ v4 then (F_X10_dulls_36 N  N v0 v1 v2 v3 0 S) else (ax_gr S v0 10 41 fun a1 => if v4 = 0 then (F_X10_dulls_26 N K3 v0 v1 v2 v3 v4 1 v4 a1 S) else (F_X10_dulls_26 N K3 v0 v1 v2 v3 v4 0 v4 a1 S))
def F_X10_dulls_3 (N : Nat)  : Nat → Nat → Int32 → Int32 → Int32 → Int32 → AxS → Option (Int64 × AxS) := axIter (fun KK => F_X10_dulls_3b N KK) (fun _ _ _ _ _ _ => none)
def F_X10_dulls (N : Nat) (v0 : Nat) (v1 : Int32) (v2 : Int32) (v3 : Int32) (S : AxS) : Option (Int64 × AxS) :=
  F_X10_dulls_3 N  N v0 v1 v2 v3 0 S

def F_X10_whole (N : Nat) (v0 : Int32) (S : AxS) : Option (Int64 × AxS) :=
  some (1 <<< (Int32.toInt64 (4 * v0) &&& 63), S)

def F_X10_areOdds (N : Nat) (v0 : Int32) (v1 : Int32) (v2 : Int32) (S : AxS) : Option (Int32 × AxS) :=
  axB (F_X10_in N v0 0 8 S) fun x2 T1 => if x2 = 0 then (ax_rz 0 (some (0, T1))) else (axB (F_X10_in N v1 0 16 T1) fun x4 T3 => if x4 = 0 then (ax_rz 0 (some (0, T3))) else (axB (F_X10_in N v2 0 16 T3) fun x6 T5 => if x6 = 0 then (ax_rz 0 (some (0, T5))) else (ax_rz 1 (some (1, T5)))))

def F_X10_mistaken_103b (N : Nat) (K103 : Int32 → Int32 → Int64 → Int64 → Int64 → AxS → Option (Int64 × AxS)) (v1 : Int32) (v6 : Int32) (v7 : Int64) (v9 : Int64) (v11 : Int64) (S : AxS) : Option (Int64 × AxS) :=
  if (lg_cmp v11 0) = 0 then (if v6 = 0 then (ax_nel v9 <| some (v7 / v9, S)) else (axB (F_X10_whole N v1 S) fun x2 T1 => ax_nel v9 <| some (x2 / v9, T1))) else (ax_nel v11 <| K103 v1 v6 v7 v11 (v9 - v9 / v11 * v11) S)
def F_X10_mistaken_103 (N : Nat)  : Nat → Int32 → Int32 → Int64 → Int64 → Int64 → AxS → Option (Int64 × AxS) := axIter (fun KK => F_X10_mistaken_103b N KK) (fun _ _ _ _ _ _ => none)
def F_X10_mistaken_91 (N : Nat)  (v1 : Int32) (v6 : Int32) (w0 : Int64) (S : AxS) : Option (Int64 × AxS) :=
  axB (F_X10_whole N v1 S) fun x2 T1 => F_X10_mistaken_103 N  N v1 v6 w0 x2 w0 T1
def F_X10_mistaken_52 (N : Nat)  (v0 : Nat) (v1 : Int32) (v2 : Int32) (v3 : Int32) (v4 : Int32) (v5 : Int32) (v6 : Int32) (w0 : Int32) (w1 : Nat) (S : AxS) : Option (Int64 × AxS) :=
  ax_is S w1 10 <| axB (F_X10_bad N w1 w0 1 1 S) fun x3 T2 => if x3 = 0 then (if v5 = 0 then (axB (F_X10_whole N v1 T2) fun x8 T7 => ax_is T7 v0 10 <| axB (F_X10_dulls N v0 v1 v3 v4 T7) fun x11 T10 => F_X10_mistaken_91 N  v1 v6 (x8 - x11) T10) else (ax_is T2 v0 10 <| axB (F_X10_dulls N v0 v1 v2 v4 T2) fun x6 T5 => F_X10_mistaken_91 N  v1 v6 x6 T5)) else (some (0, T2))
def F_X10_mistaken_47 (N : Nat)  (v0 : Nat) (v1 : Int32) (v2 : Int32) (v3 : Int32) (v4 : Int32) (v5 : Int32) (v6 : Int32) (w0 : Nat) (S : AxS) : Option (Int64 × AxS) :=
  F_X10_mistaken_52 N  v0 v1 v2 v3 v4 v5 v6 1 w0 S
def F_X10_mistaken (N : Nat) (v0 : Nat) (v1 : Int32) (v2 : Int32) (v3 : Int32) (v4 : Int32) (v5 : Int32) (v6 : Int32) (S : AxS) : Option (Int64 × AxS) :=
  ax_pi S v0 10 0 0 fun T1 => axB (F_X10_areOdds N v1 v2 v3 T1) fun x3 T2 => if x3 = 0 then (F_X10_mistaken_47 N  v0 v1 v2 v3 v4 v5 v6 v0 T2) else (axB (F_X10_in N v4 0 (v1 + 1) T2) fun x5 T4 => if x5 = 0 then (F_X10_mistaken_47 N  v0 v1 v2 v3 v4 v5 v6 v0 T4) else (axB (F_X10_in N v5 0 1 T4) fun x7 T6 => if x7 = 0 then (F_X10_mistaken_47 N  v0 v1 v2 v3 v4 v5 v6 v0 T6) else (axB (F_X10_in N v6 0 1 T6) fun x9 T8 => if x9 = 0 then (F_X10_mistaken_47 N  v0 v1 v2 v3 v4 v5 v6 v0 T8) else (F_X10_mistaken_52 N  v0 v1 v2 v3 v4 v5 v6 0 v0 T8))))

def F_X10_best_101 (N : Nat) (K41 : Nat → Int32 → Int32 → Int32 → Int32 → Int64 → Int32 → AxS → Option (Int32 × AxS)) (v0 : Nat) (v1 : Int32) (v2 : Int32) (v3 : Int32) (v4 : Int32) (v5 : Int64) (v7 : Int32) (S : AxS) : Option (Int32 × AxS) :=
  K41 v0 v1 v2 v3 v4 v5 (v7 + 1) S
def F_X10_best_93 (N : Nat) (K41 : Nat → Int32 → Int32 → Int32 → Int32 → Int64 → Int32 → AxS → Option (Int32 × AxS)) (v0 : Nat) (v1 : Int32) (v2 : Int32) (v3 : Int32) (v7 : Int32) (v8 : Int64) (S : AxS) : Option (Int32 × AxS) :=
  F_X10_best_101 N K41 v0 v1 v2 v3 v7 v8 v7 S
def F_X10_best_41b (N : Nat) (K41 : Nat → Int32 → Int32 → Int32 → Int32 → Int64 → Int32 → AxS → Option (Int32 × AxS)) (v0 : Nat) (v1 : Int32) (v2 : Int32) (v3 : Int32) (v4 : Int32) (v5 : Int64) (v7 : Int32) (S : AxS) : Option (Int32 × AxS) :=
  if (v1 + 1) < v7 then (some (v4, S)) else (axB (F_X10_whole N v1 S) fun x2 T1 => ax_is T1 v0 10 <| axB (F_X10_dulls N v0 v1 v3 v7 T1) fun x5 T4 => ax_is T4 v0 10 <| axB (F_X10_dulls N v0 v1 v2 v7 T4) fun x8 T7 => if (lg_cmp v5 ((-1))) = 0 then (F_X10_best_93 N K41 v0 v1 v2 v3 v7 ((x2 - x5) + x8) T7) else (if (lg_cmp ((x2 - x5) + x8) v5) < 0 then (F_X10_best_93 N K41 v0 v1 v2 v3 v7 ((x2 - x5) + x8) T7) else (F_X10_best_101 N K41 v0 v1 v2 v3 v4 v5 v7 T7)))
def F_X10_best_41 (N : Nat)  : Nat → Nat → Int32 → Int32 → Int32 → Int32 → Int64 → Int32 → AxS → Option (Int32 × AxS) := axIter (fun KK => F_X10_best_41b N KK) (fun _ _ _ _ _ _ _ _ => none)
def F_X10_best_20 (N : Nat)  (v0 : Nat) (v1 : Int32) (v2 : Int32) (v3 : Int32) (w0 : Int32) (w1 : Nat) (S : AxS) : Option (Int32 × AxS) :=
  ax_is S w1 10 <| axB (F_X10_bad N w1 w0 1 1 S) fun x3 T2 => if x3 = 0 then (F_X10_best_41 N  N v0 v1 v2 v3 0 ((-1)) 0 T2) else (some (0, T2))
def F_X10_best (N : Nat) (v0 : Nat) (v1 : Int32) (v2 : Int32) (v3 : Int32) (S : AxS) : Option (Int32 × AxS) :=
  ax_pi S v0 10 0 0 fun T1 => axB (F_X10_areOdds N v1 v2 v3 T1) fun x3 T2 => if x3 = 0 then (F_X10_best_20 N  v0 v1 v2 v3 1 v0 T2) else (F_X10_best_20 N  v0 v1 v2 v3 0 v0 T2)

def F_X10_bedsFrom_139 (N : Nat) (kr : Nat → Int32 → Int32 → Int32 → Int32 → AxS → Option (AxS)) (K66 : Nat → Int32 → Int32 → Int32 → Int32 → Int32 → AxS → Option (AxS)) (v0 : Nat) (v1 : Int32) (v2 : Int32) (v3 : Int32) (v4 : Int32) (v5 : Int32) (S : AxS) : Option (AxS) :=
  K66 v0 v1 v2 v3 v4 (v5 + 1) S
def F_X10_bedsFrom_133 (N : Nat) (kr : Nat → Int32 → Int32 → Int32 → Int32 → AxS → Option (AxS)) (K66 : Nat → Int32 → Int32 → Int32 → Int32 → Int32 → AxS → Option (AxS)) (v0 : Nat) (v1 : Int32) (v2 : Int32) (v3 : Int32) (v4 : Int32) (v5 : Int32) (w0 : Int32) (w1 : Int32) (w2 : Int32) (w3 : Int32) (w4 : Nat) (S : AxS) : Option (AxS) :=
  ax_is S w4 10 <| axBV (kr w4 w3 w2 (w1 + w0) v4 S) fun T2 => F_X10_bedsFrom_139 N kr K66 v0 v1 v2 v3 v4 v5 T2
def F_X10_bedsFrom_66b (N : Nat) (kr : Nat → Int32 → Int32 → Int32 → Int32 → AxS → Option (AxS)) (K66 : Nat → Int32 → Int32 → Int32 → Int32 → Int32 → AxS → Option (AxS)) (v0 : Nat) (v1 : Int32) (v2 : Int32) (v3 : Int32) (v4 : Int32) (v5 : Int32) (S : AxS) : Option (AxS) :=
  ax_gr S v0 10 12 fun a1 => ax_ld S a1 1 fun x2 => if x2 ≤ v5 then (some S) else (axB (F_X10_has N v2 v5 S) fun x4 T3 => if x4 = 0 then (ax_gr T3 v0 10 42 fun a5 => ax_st T3 a5 v1 v5 fun T6 => ax_is T6 v0 10 <| axB (F_X10_noiseOf N v0 v5 v4 0 T6) fun x9 T8 => ax_gr T8 v0 10 16 fun a10 => ax_ldr T8 a10 2 fun a11 => ax_ld T8 a11 v1 fun x12 => if x9 ≤ x12 then (F_X10_bedsFrom_133 N kr K66 v0 v1 v2 v3 v4 v5 1 v3 (v2 ||| (1 <<< (v5 &&& 31))) (v1 + 1) v0 T8) else (F_X10_bedsFrom_133 N kr K66 v0 v1 v2 v3 v4 v5 0 v3 (v2 ||| (1 <<< (v5 &&& 31))) (v1 + 1) v0 T8)) else (F_X10_bedsFrom_139 N kr K66 v0 v1 v2 v3 v4 v5 T3))
def F_X10_bedsFrom_66 (N : Nat) (kr : Nat → Int32 → Int32 → Int32 → Int32 → AxS → Option (AxS))  : Nat → Nat → Int32 → Int32 → Int32 → Int32 → Int32 → AxS → Option (AxS) := axIter (fun KK => F_X10_bedsFrom_66b N kr KK) (fun _ _ _ _ _ _ _ => none)
def F_X10_bedsFrom_36b (N : Nat) (kr : Nat → Int32 → Int32 → Int32 → Int32 → AxS → Option (AxS)) (K36 : Nat → Int32 → Int32 → AxS → Option (AxS)) (v0 : Nat) (v1 : Int32) (v5 : Int32) (S : AxS) : Option (AxS) :=
  if v1 ≤ v5 then (some S) else (ax_gr S v0 10 43 fun a1 => ax_gr S v0 10 42 fun a2 => ax_ld S a2 v5 fun x3 => ax_st S a1 v5 x3 fun T4 => K36 v0 v1 (v5 + 1) T4)
def F_X10_bedsFrom_36 (N : Nat) (kr : Nat → Int32 → Int32 → Int32 → Int32 → AxS → Option (AxS))  : Nat → Nat → Int32 → Int32 → AxS → Option (AxS) := axIter (fun KK => F_X10_bedsFrom_36b N kr KK) (fun _ _ _ _ => none)
def F_X10_bedsFrom (N : Nat) (kr : Nat → Int32 → Int32 → Int32 → Int32 → AxS → Option (AxS)) (v0 : Nat) (v1 : Int32) (v2 : Int32) (v3 : Int32) (v4 : Int32) (S : AxS) : Option (AxS) :=
  ax_gr S v0 10 12 fun a1 => ax_ld S a1 2 fun x2 => ax_gi S v0 10 44 fun x3 => if x3 < ((v3 + x2) - v1) then (ax_gr S v0 10 12 fun a4 => ax_ld S a4 2 fun x5 => if v1 = x5 then (ax_pi S v0 10 44 v3 fun T6 => F_X10_bedsFrom_36 N kr  N v0 v1 0 T6) else (F_X10_bedsFrom_66 N kr  N v0 v1 v2 v3 v4 0 S)) else (some S)
def GG_X10_bedsFrom (N : Nat) : Nat → Nat → Int32 → Int32 → Int32 → Int32 → AxS → Option (AxS) := axIter (fun kr => F_X10_bedsFrom N kr) (fun _ _ _ _ _ _ => none)
def G_X10_bedsFrom (N : Nat) : Nat → Int32 → Int32 → Int32 → Int32 → AxS → Option (AxS) := GG_X10_bedsFrom N 11

def F_X10_laysBeds (N : Nat) (v0 : Nat) (v1 : Int32) (S : AxS) : Option (AxS) :=
  ax_pi S v0 10 44 ((-1)) fun T1 => ax_is T1 v0 10 <| axBV (G_X10_bedsFrom N v0 0 0 0 v1 T1) fun T3 => some T3

def F_X10_beds_22 (N : Nat)  (v0 : Nat) (v1 : Int32) (w0 : Int32) (w1 : Nat) (S : AxS) : Option (Int32 × AxS) :=
  ax_is S w1 10 <| axB (F_X10_bad N w1 w0 1 1 S) fun x3 T2 => if x3 = 0 then (ax_is T2 v0 10 <| axBV (F_X10_laysBeds N v0 v1 T2) fun T5 => ax_gi T5 v0 10 44 fun x7 => some (x7, T5)) else (some (0, T2))
def F_X10_beds (N : Nat) (v0 : Nat) (v1 : Int32) (S : AxS) : Option (Int32 × AxS) :=
  ax_pi S v0 10 0 0 fun T1 => axB (F_X10_in N v1 0 999 T1) fun x3 T2 => if x3 = 0 then (F_X10_beds_22 N  v0 v1 1 v0 T2) else (F_X10_beds_22 N  v0 v1 0 v0 T2)

def F_X10_bed_37 (N : Nat)  (v0 : Nat) (v1 : Int32) (v2 : Int32) (w0 : Int32) (w1 : Nat) (S : AxS) : Option (Int32 × AxS) :=
  ax_is S w1 10 <| axB (F_X10_bad N w1 w0 2 1 S) fun x3 T2 => if x3 = 0 then (ax_is T2 v0 10 <| axBV (F_X10_laysBeds N v0 v2 T2) fun T5 => ax_gr T5 v0 10 43 fun a7 => ax_ld T5 a7 v1 fun x8 => some (x8, T5)) else (some (0, T2))
def F_X10_bed (N : Nat) (v0 : Nat) (v1 : Int32) (v2 : Int32) (S : AxS) : Option (Int32 × AxS) :=
  ax_pi S v0 10 0 0 fun T1 => ax_is T1 v0 10 <| axB (F_X10_isNo N v0 2 v1 T1) fun x4 T3 => ax_is T3 v0 10 <| axB (F_X10_bad N v0 x4 1 0 T3) fun x7 T6 => if x7 = 0 then (axB (F_X10_in N v2 0 999 T6) fun x9 T8 => if x9 = 0 then (F_X10_bed_37 N  v0 v1 v2 1 v0 T8) else (F_X10_bed_37 N  v0 v1 v2 0 v0 T8)) else (some (0, T6))

def F_X10_watcher_65 (N : Nat) (K4 : Nat → Int32 → Int32 → AxS → Option (Int32 × AxS)) (v0 : Nat) (v1 : Int32) (v2 : Int32) (S : AxS) : Option (Int32 × AxS) :=
  K4 v0 v1 (v2 + 1) S
def F_X10_watcher_63 (N : Nat) (K4 : Nat → Int32 → Int32 → AxS → Option (Int32 × AxS)) (v0 : Nat) (v2 : Int32) (S : AxS) : Option (Int32 × AxS) :=
  F_X10_watcher_65 N K4 v0 v2 v2 S
def F_X10_watcher_4b (N : Nat) (K4 : Nat → Int32 → Int32 → AxS → Option (Int32 × AxS)) (v0 : Nat) (v1 : Int32) (v2 : Int32) (S : AxS) : Option (Int32 × AxS) :=
  ax_gr S v0 10 12 fun a1 => ax_ld S a1 2 fun x2 => if x2 ≤ v2 then (some (v1, S)) else (ax_gr S v0 10 45 fun a3 => ax_ld S a3 v2 fun x4 => ax_gr S v0 10 45 fun a5 => ax_ld S a5 v1 fun x6 => if x4 < x6 then (F_X10_watcher_63 N K4 v0 v2 S) else (ax_gr S v0 10 45 fun a7 => ax_ld S a7 v2 fun x8 => ax_gr S v0 10 45 fun a9 => ax_ld S a9 v1 fun x10 => if x8 = x10 then (ax_gr S v0 10 16 fun a11 => ax_ldr S a11 2 fun a12 => ax_ld S a12 v2 fun x13 => ax_gr S v0 10 16 fun a14 => ax_ldr S a14 2 fun a15 => ax_ld S a15 v1 fun x16 => if x13 ≤ x16 then (F_X10_watcher_65 N K4 v0 v1 v2 S) else (F_X10_watcher_63 N K4 v0 v2 S)) else (F_X10_watcher_65 N K4 v0 v1 v2 S)))
def F_X10_watcher_4 (N : Nat)  : Nat → Nat → Int32 → Int32 → AxS → Option (Int32 × AxS) := axIter (fun KK => F_X10_watcher_4b N KK) (fun _ _ _ _ => none)
def F_X10_watcher (N : Nat) (v0 : Nat) (S : AxS) : Option (Int32 × AxS) :=
  F_X10_watcher_4 N  N v0 0 1 S

def F_X10_watch_69b (N : Nat) (K69 : Nat → Int32 → Int32 → Int32 → AxS → Option (Int32 × AxS)) (v0 : Nat) (v1 : Int32) (v2 : Int32) (v3 : Int32) (S : AxS) : Option (Int32 × AxS) :=
  if v2 ≤ v3 then (ax_gr S v0 10 45 fun a1 => ax_ld S a1 v1 fun x2 => some (x2, S)) else (ax_gr S v0 10 45 fun a3 => ax_is S v0 10 <| axB (F_X10_watcher N v0 S) fun x6 T5 => ax_ld T5 a3 x6 fun x7 => ax_st T5 a3 x6 (x7 + 1) fun T8 => K69 v0 v1 v2 (v3 + 1) T8)
def F_X10_watch_69 (N : Nat)  : Nat → Nat → Int32 → Int32 → Int32 → AxS → Option (Int32 × AxS) := axIter (fun KK => F_X10_watch_69b N KK) (fun _ _ _ _ _ => none)
def F_X10_watch_48b (N : Nat) (K48 : Nat → Int32 → Int32 → Int32 → AxS → Option (Int32 × AxS)) (v0 : Nat) (v1 : Int32) (v2 : Int32) (v3 : Int32) (S : AxS) : Option (Int32 × AxS) :=
  if 8 ≤ v3 then (F_X10_watch_69 N  N v0 v1 v2 0 S) else (ax_gr S v0 10 45 fun a1 => ax_st S a1 v3 0 fun T2 => K48 v0 v1 v2 (v3 + 1) T2)
def F_X10_watch_48 (N : Nat)  : Nat → Nat → Int32 → Int32 → Int32 → AxS → Option (Int32 × AxS) := axIter (fun KK => F_X10_watch_48b N KK) (fun _ _ _ _ _ => none)
def F_X10_watch_36 (N : Nat)  (v0 : Nat) (v1 : Int32) (v2 : Int32) (w0 : Int32) (w1 : Nat) (S : AxS) : Option (Int32 × AxS) :=
  ax_is S w1 10 <| axB (F_X10_bad N w1 w0 2 1 S) fun x3 T2 => if x3 = 0 then (F_X10_watch_48 N  N v0 v1 v2 0 T2) else (some (0, T2))
def F_X10_watch (N : Nat) (v0 : Nat) (v1 : Int32) (v2 : Int32) (S : AxS) : Option (Int32 × AxS) :=
  ax_pi S v0 10 0 0 fun T1 => ax_is T1 v0 10 <| axB (F_X10_isNo N v0 2 v1 T1) fun x4 T3 => ax_is T3 v0 10 <| axB (F_X10_bad N v0 x4 1 0 T3) fun x7 T6 => if x7 = 0 then (axB (F_X10_in N v2 0 60 T6) fun x9 T8 => if x9 = 0 then (F_X10_watch_36 N  v0 v1 v2 1 v0 T8) else (F_X10_watch_36 N  v0 v1 v2 0 v0 T8)) else (some (0, T6))

def F_X10_bidsBut_33 (N : Nat) (K4 : Nat → Int32 → Int32 → Int32 → AxS → Option (Int32 × AxS)) (v0 : Nat) (v1 : Int32) (v3 : Int32) (w0 : Int32) (w1 : Int32) (S : AxS) : Option (Int32 × AxS) :=
  K4 v0 v1 (w1 + w0) (v3 + 1) S
def F_X10_bidsBut_4b (N : Nat) (K4 : Nat → Int32 → Int32 → Int32 → AxS → Option (Int32 × AxS)) (v0 : Nat) (v1 : Int32) (v2 : Int32) (v3 : Int32) (S : AxS) : Option (Int32 × AxS) :=
  ax_gr S v0 10 12 fun a1 => ax_ld S a1 3 fun x2 => if x2 ≤ v3 then (some (v2, S)) else (if v3 = v1 then (F_X10_bidsBut_33 N K4 v0 v1 v3 0 v2 S) else (ax_gr S v0 10 46 fun a3 => ax_ld S a3 v3 fun x4 => F_X10_bidsBut_33 N K4 v0 v1 v3 (10 * x4) v2 S))
def F_X10_bidsBut_4 (N : Nat)  : Nat → Nat → Int32 → Int32 → Int32 → AxS → Option (Int32 × AxS) := axIter (fun KK => F_X10_bidsBut_4b N KK) (fun _ _ _ _ _ => none)
def F_X10_bidsBut (N : Nat) (v0 : Nat) (v1 : Int32) (S : AxS) : Option (Int32 × AxS) :=
  F_X10_bidsBut_4 N  N v0 v1 0 0 S

def F_X10_getsBy (N : Nat) (v0 : Nat) (v1 : Int32) (v2 : Int32) (S : AxS) : Option (Int32 × AxS) :=
  ax_is S v0 10 <| axB (F_X10_bidsBut N v0 v1 S) fun x3 T2 => ax_gr T2 v0 10 27 fun a4 => ax_ld T2 a4 0 fun x5 => if (x3 + (10 * v2)) ≤ x5 then (ax_gr T2 v0 10 16 fun a6 => ax_ldr T2 a6 3 fun a7 => ax_ld T2 a7 v1 fun x8 => axB (F_X10_less N (10 * v2) x8 T2) fun x10 T9 => some (x10, T9)) else (some (0, T2))

def F_X10_isRest_14b (N : Nat) (K2 : Nat → Int32 → Int32 → AxS → Option (Int32 × AxS)) (K14 : Nat → Int32 → Int32 → Int32 → AxS → Option (Int32 × AxS)) (v0 : Nat) (v1 : Int32) (v2 : Int32) (v3 : Int32) (S : AxS) : Option (Int32 × AxS) :=
  if v1 < v3 then (K2 v0 v1 (v2 + 1) S) else (ax_is S v0 10 <| axB (F_X10_getsBy N v0 v2 v3 S) fun x3 T2 => ax_gr T2 v0 10 46 fun a4 => ax_ld T2 a4 v2 fun x5 => ax_is T2 v0 10 <| axB (F_X10_getsBy N v0 v2 x5 T2) fun x8 T7 => if x3 ≤ x8 then (K14 v0 v1 v2 (v3 + 1) T7) else (ax_rz 0 (some (0, T7))))
def F_X10_isRest_14 (N : Nat) (K2 : Nat → Int32 → Int32 → AxS → Option (Int32 × AxS)) : Nat → Nat → Int32 → Int32 → Int32 → AxS → Option (Int32 × AxS) := axIter (fun KK => F_X10_isRest_14b N K2 KK) (fun _ _ _ _ _ => none)
def F_X10_isRest_2b (N : Nat) (K2 : Nat → Int32 → Int32 → AxS → Option (Int32 × AxS)) (v0 : Nat) (v1 : Int32) (v2 : Int32) (S : AxS) : Option (Int32 × AxS) :=
  ax_gr S v0 10 12 fun a1 => ax_ld S a1 3 fun x2 => if x2 ≤ v2 then (ax_rz 1 (some (1, S))) else (F_X10_isRest_14 N K2 N v0 v1 v2 0 S)
def F_X10_isRest_2 (N : Nat)  : Nat → Nat → Int32 → Int32 → AxS → Option (Int32 × AxS) := axIter (fun KK => F_X10_isRest_2b N KK) (fun _ _ _ _ => none)
def F_X10_isRest (N : Nat) (v0 : Nat) (v1 : Int32) (S : AxS) : Option (Int32 × AxS) :=
  F_X10_isRest_2 N  N v0 v1 0 S

def F_X10_heirs_233 (N : Nat) (K80 : Nat → Int32 → Int32 → Int32 → Int32 → Int32 → Int32 → Int32 → AxS → Option (Int32 × AxS)) (v0 : Nat) (v1 : Int32) (v2 : Int32) (v3 : Int32) (v4 : Int32) (v5 : Int32) (v6 : Int32) (v7 : Int32) (S : AxS) : Option (Int32 × AxS) :=
  K80 v0 v1 v2 v3 v4 v5 v6 (v7 + 1) S
def F_X10_heirs_228 (N : Nat) (K80 : Nat → Int32 → Int32 → Int32 → Int32 → Int32 → Int32 → Int32 → AxS → Option (Int32 × AxS)) (v0 : Nat) (v1 : Int32) (v2 : Int32) (v3 : Int32) (v4 : Int32) (v5 : Int32) (v7 : Int32) (w0 : Int32) (S : AxS) : Option (Int32 × AxS) :=
  F_X10_heirs_233 N K80 v0 v1 v2 v3 (v4 + 1) v5 w0 v7 S
def F_X10_heirs_214 (N : Nat) (K80 : Nat → Int32 → Int32 → Int32 → Int32 → Int32 → Int32 → Int32 → AxS → Option (Int32 × AxS)) (v0 : Nat) (v1 : Int32) (v2 : Int32) (v3 : Int32) (v4 : Int32) (v6 : Int32) (v7 : Int32) (v10 : Int32) (w0 : Int32) (S : AxS) : Option (Int32 × AxS) :=
  if v4 = 0 then (F_X10_heirs_228 N K80 v0 v1 v2 v3 v4 w0 v7 v10 S) else (F_X10_heirs_228 N K80 v0 v1 v2 v3 v4 w0 v7 v6 S)
def F_X10_heirs_152b (N : Nat) (K80 : Nat → Int32 → Int32 → Int32 → Int32 → Int32 → Int32 → Int32 → AxS → Option (Int32 × AxS)) (K152 : Nat → Int32 → Int32 → Int32 → Int32 → Int32 → Int32 → Int32 → Int32 → Int32 → Int32 → AxS → Option (Int32 × AxS)) (v0 : Nat) (v1 : Int32) (v2 : Int32) (v3 : Int32) (v4 : Int32) (v5 : Int32) (v6 : Int32) (v7 : Int32) (v9 : Int32) (v10 : Int32) (v11 : Int32) (S : AxS) : Option (Int32 × AxS) :=
  ax_gr S v0 10 12 fun a1 => ax_ld S a1 3 fun x2 => if x2 ≤ v11 then (if v4 = 0 then (F_X10_heirs_214 N K80 v0 v1 v2 v3 v4 v6 v7 v10 v9 S) else (F_X10_heirs_214 N K80 v0 v1 v2 v3 v4 v6 v7 v10 v5 S)) else (ax_gr S v0 10 46 fun a3 => ax_ld S a3 v11 fun x4 => ax_gr S v0 10 46 fun a5 => ax_ld S a5 v11 fun x6 => ax_is S v0 10 <| axB (F_X10_getsBy N v0 v11 x6 S) fun x9 T8 => K152 v0 v1 v2 v3 v4 v5 v6 v7 ((10 * v9) + x4) (v10 + x9) (v11 + 1) T8)
def F_X10_heirs_152 (N : Nat) (K80 : Nat → Int32 → Int32 → Int32 → Int32 → Int32 → Int32 → Int32 → AxS → Option (Int32 × AxS)) : Nat → Nat → Int32 → Int32 → Int32 → Int32 → Int32 → Int32 → Int32 → Int32 → Int32 → Int32 → AxS → Option (Int32 × AxS) := axIter (fun KK => F_X10_heirs_152b N K80 KK) (fun _ _ _ _ _ _ _ _ _ _ _ _ => none)
def F_X10_heirs_106b (N : Nat) (K80 : Nat → Int32 → Int32 → Int32 → Int32 → Int32 → Int32 → Int32 → AxS → Option (Int32 × AxS)) (K106 : Nat → Int32 → Int32 → Int32 → Int32 → Int32 → Int32 → Int32 → Int32 → Int32 → Int32 → Int32 → AxS → Option (Int32 × AxS)) (v0 : Nat) (v1 : Int32) (v2 : Int32) (v3 : Int32) (v4 : Int32) (v5 : Int32) (v6 : Int32) (v7 : Int32) (v8 : Int32) (v9 : Int32) (v10 : Int32) (v11 : Int32) (S : AxS) : Option (Int32 × AxS) :=
  if v11 < 0 then (ax_is S v0 10 <| axB (F_X10_isRest N v0 v1 S) fun x3 T2 => if x3 = 0 then (F_X10_heirs_233 N K80 v0 v1 v2 v3 v4 v5 v6 v7 T2) else (F_X10_heirs_152 N K80 N v0 v1 v2 v3 v4 v5 v6 v7 v9 v10 0 T2)) else (ax_gr S v0 10 46 fun a4 => ax_ne (v1 + 1) <| ax_st S a4 v11 (v8 - v8 / (v1 + 1) * (v1 + 1)) fun T5 => ax_ne (v1 + 1) <| K106 v0 v1 v2 v3 v4 v5 v6 v7 (v8 / (v1 + 1)) v9 v10 (v11 + (-1)) T5)
def F_X10_heirs_106 (N : Nat) (K80 : Nat → Int32 → Int32 → Int32 → Int32 → Int32 → Int32 → Int32 → AxS → Option (Int32 × AxS)) : Nat → Nat → Int32 → Int32 → Int32 → Int32 → Int32 → Int32 → Int32 → Int32 → Int32 → Int32 → Int32 → AxS → Option (Int32 × AxS) := axIter (fun KK => F_X10_heirs_106b N K80 KK) (fun _ _ _ _ _ _ _ _ _ _ _ _ _ => none)
def F_X10_heirs_80b (N : Nat) (K80 : Nat → Int32 → Int32 → Int32 → Int32 → Int32 → Int32 → Int32 → AxS → Option (Int32 × AxS)) (v0 : Nat) (v1 : Int32) (v2 : Int32) (v3 : Int32) (v4 : Int32) (v5 : Int32) (v6 : Int32) (v7 : Int32) (S : AxS) : Option (Int32 × AxS) :=
  if v3 ≤ v7 then (if v2 = 0 then (some (v4, S)) else (if v2 = 1 then (some (v5, S)) else (some (v6, S)))) else (ax_gr S v0 10 12 fun a1 => ax_ld S a1 3 fun x2 => F_X10_heirs_106 N K80 N v0 v1 v2 v3 v4 v5 v6 v7 v7 0 0 (x2 - 1) S)
def F_X10_heirs_80 (N : Nat)  : Nat → Nat → Int32 → Int32 → Int32 → Int32 → Int32 → Int32 → Int32 → AxS → Option (Int32 × AxS) := axIter (fun KK => F_X10_heirs_80b N KK) (fun _ _ _ _ _ _ _ _ _ => none)
def F_X10_heirs_54b (N : Nat) (K54 : Nat → Int32 → Int32 → Int32 → Int32 → Int32 → Int32 → Int32 → AxS → Option (Int32 × AxS)) (v0 : Nat) (v1 : Int32) (v2 : Int32) (v3 : Int32) (v4 : Int32) (v5 : Int32) (v6 : Int32) (v7 : Int32) (S : AxS) : Option (Int32 × AxS) :=
  ax_gr S v0 10 12 fun a1 => ax_ld S a1 3 fun x2 => if x2 ≤ v7 then (F_X10_heirs_80 N  N v0 v1 v2 v3 v4 v5 v6 0 S) else (K54 v0 v1 v2 (v3 * (v1 + 1)) v4 v5 v6 (v7 + 1) S)
def F_X10_heirs_54 (N : Nat)  : Nat → Nat → Int32 → Int32 → Int32 → Int32 → Int32 → Int32 → Int32 → AxS → Option (Int32 × AxS) := axIter (fun KK => F_X10_heirs_54b N KK) (fun _ _ _ _ _ _ _ _ _ => none)
def F_X10_heirs_30 (N : Nat)  (v0 : Nat) (v1 : Int32) (v2 : Int32) (w0 : Int32) (w1 : Nat) (S : AxS) : Option (Int32 × AxS) :=
  ax_is S w1 10 <| axB (F_X10_bad N w1 w0 1 1 S) fun x3 T2 => if x3 = 0 then (F_X10_heirs_54 N  N v0 v1 v2 1 0 ((-1)) 0 0 T2) else (some (0, T2))
def F_X10_heirs_25 (N : Nat)  (v0 : Nat) (v1 : Int32) (v2 : Int32) (w0 : Nat) (S : AxS) : Option (Int32 × AxS) :=
  F_X10_heirs_30 N  v0 v1 v2 1 w0 S
def F_X10_heirs (N : Nat) (v0 : Nat) (v1 : Int32) (v2 : Int32) (S : AxS) : Option (Int32 × AxS) :=
  ax_pi S v0 10 0 0 fun T1 => axB (F_X10_in N v1 0 9 T1) fun x3 T2 => if x3 = 0 then (F_X10_heirs_25 N  v0 v1 v2 v0 T2) else (axB (F_X10_in N v2 0 2 T2) fun x5 T4 => if x5 = 0 then (F_X10_heirs_25 N  v0 v1 v2 v0 T4) else (F_X10_heirs_30 N  v0 v1 v2 0 v0 T4))

def F_X10_level_45b (N : Nat) (K34 : Nat → Int32 → Int32 → AxS → Option (Int32 × AxS)) (K45 : Nat → Int32 → Int32 → Int32 → Int32 → AxS → Option (Int32 × AxS)) (v0 : Nat) (v1 : Int32) (v2 : Int32) (v3 : Int32) (v4 : Int32) (S : AxS) : Option (Int32 × AxS) :=
  ax_gr S v0 10 12 fun a1 => ax_ld S a1 0 fun x2 => if x2 ≤ v4 then (if v3 < v1 then (K34 v0 v1 (v2 + 1) S) else (some (v2, S))) else (ax_gr S v0 10 16 fun a3 => ax_ldr S a3 0 fun a4 => ax_ld S a4 v4 fun x5 => axB (F_X10_less N v2 x5 S) fun x7 T6 => K45 v0 v1 v2 (v3 + x7) (v4 + 1) T6)
def F_X10_level_45 (N : Nat) (K34 : Nat → Int32 → Int32 → AxS → Option (Int32 × AxS)) : Nat → Nat → Int32 → Int32 → Int32 → Int32 → AxS → Option (Int32 × AxS) := axIter (fun KK => F_X10_level_45b N K34 KK) (fun _ _ _ _ _ _ => none)
def F_X10_level_34b (N : Nat) (K34 : Nat → Int32 → Int32 → AxS → Option (Int32 × AxS)) (v0 : Nat) (v1 : Int32) (v2 : Int32) (S : AxS) : Option (Int32 × AxS) :=
  if 20 < v2 then (some ((-1), S)) else (F_X10_level_45 N K34 N v0 v1 v2 0 0 S)
def F_X10_level_34 (N : Nat)  : Nat → Nat → Int32 → Int32 → AxS → Option (Int32 × AxS) := axIter (fun KK => F_X10_level_34b N KK) (fun _ _ _ _ => none)
def F_X10_level_22 (N : Nat)  (v0 : Nat) (v1 : Int32) (w0 : Int32) (w1 : Nat) (S : AxS) : Option (Int32 × AxS) :=
  ax_is S w1 10 <| axB (F_X10_bad N w1 w0 1 1 S) fun x3 T2 => if x3 = 0 then (F_X10_level_34 N  N v0 v1 0 T2) else (some (0, T2))
def F_X10_level (N : Nat) (v0 : Nat) (v1 : Int32) (S : AxS) : Option (Int32 × AxS) :=
  ax_pi S v0 10 0 0 fun T1 => axB (F_X10_in N v1 0 200 T1) fun x3 T2 => if x3 = 0 then (F_X10_level_22 N  v0 v1 1 v0 T2) else (F_X10_level_22 N  v0 v1 0 v0 T2)

def F_X10_draw (N : Nat) (v0 : Nat) (S : AxS) : Option (Int32 × AxS) :=
  ax_gi S v0 10 47 fun x1 => ax_pi S v0 10 47 ((x1 * 1103515245) + 12345) fun T2 => ax_gi T2 v0 10 47 fun x3 => some ((x3 >>> (16 &&& 31)) &&& 15, T2)

def F_X10_yearsBy_118 (N : Nat) (K24 : Nat → Int32 → Int32 → Int32 → Int32 → Int32 → AxS → Option (AxS)) (v0 : Nat) (v2 : Int32) (v3 : Int32) (v4 : Int32) (v5 : Int32) (v6 : Int32) (S : AxS) : Option (AxS) :=
  ax_gr S v0 10 28 fun a1 => ax_gr S v0 10 28 fun a2 => ax_ld S a2 1 fun x3 => ax_gr S v0 10 28 fun a4 => ax_ld S a4 0 fun x5 => axB (F_X10_less N x3 x5 S) fun x7 T6 => axB (F_X10_less N v5 x7 T6) fun x9 T8 => axB (F_X10_pays N a1 x9 T8) fun x11 T10 => ax_gr T10 v0 10 28 fun a12 => ax_is T10 v0 10 <| axBV (F_X10_nightEnds N v0 a12 T10) fun T14 => K24 v0 v2 v3 v4 v5 (v6 + 1) T14
def F_X10_yearsBy_85b (N : Nat) (K24 : Nat → Int32 → Int32 → Int32 → Int32 → Int32 → AxS → Option (AxS)) (K85 : Nat → Int32 → Int32 → Int32 → Int32 → Int32 → Int32 → Int32 → AxS → Option (AxS)) (v0 : Nat) (v2 : Int32) (v3 : Int32) (v4 : Int32) (v5 : Int32) (v6 : Int32) (v7 : Int32) (v8 : Int32) (S : AxS) : Option (AxS) :=
  ax_gr S v0 10 12 fun a1 => ax_ld S a1 0 fun x2 => if x2 ≤ v8 then (F_X10_yearsBy_118 N K24 v0 v2 v3 v4 v5 v6 S) else (if v7 = 0 then (ax_gr S v0 10 28 fun a3 => ax_is S v0 10 <| axB (F_X10_gives N v0 a3 v8 S) fun x6 T5 => K85 v0 v2 v3 v4 v5 v6 v7 (v8 + 1) T5) else (F_X10_yearsBy_118 N K24 v0 v2 v3 v4 v5 v6 S))
def F_X10_yearsBy_85 (N : Nat) (K24 : Nat → Int32 → Int32 → Int32 → Int32 → Int32 → AxS → Option (AxS)) : Nat → Nat → Int32 → Int32 → Int32 → Int32 → Int32 → Int32 → Int32 → AxS → Option (AxS) := axIter (fun KK => F_X10_yearsBy_85b N K24 KK) (fun _ _ _ _ _ _ _ _ _ => none)
def F_X10_yearsBy_80 (N : Nat) (K24 : Nat → Int32 → Int32 → Int32 → Int32 → Int32 → AxS → Option (AxS)) (v0 : Nat) (v2 : Int32) (v3 : Int32) (v4 : Int32) (v5 : Int32) (v6 : Int32) (w0 : Int32) (S : AxS) : Option (AxS) :=
  F_X10_yearsBy_85 N K24 N v0 v2 v3 v4 v5 v6 w0 0 S
def F_X10_yearsBy_49 (N : Nat) (K24 : Nat → Int32 → Int32 → Int32 → Int32 → Int32 → AxS → Option (AxS)) (v0 : Nat) (v2 : Int32) (v3 : Int32) (v4 : Int32) (v5 : Int32) (v6 : Int32) (w0 : Int32) (w1 : Int32) (w2 : Nat) (S : AxS) : Option (AxS) :=
  ax_st S w2 w1 w0 fun T1 => ax_gi T1 v0 10 48 fun x2 => ax_gr T1 v0 10 28 fun a3 => ax_ld T1 a3 12 fun x4 => ax_pi T1 v0 10 48 (x2 + x4) fun T5 => ax_is T5 v0 10 <| axB (F_X10_draw N v0 T5) fun x8 T7 => if v4 ≤ x8 then (F_X10_yearsBy_80 N K24 v0 v2 v3 v4 v5 v6 0 T7) else (F_X10_yearsBy_80 N K24 v0 v2 v3 v4 v5 v6 1 T7)
def F_X10_yearsBy_24b (N : Nat) (K24 : Nat → Int32 → Int32 → Int32 → Int32 → Int32 → AxS → Option (AxS)) (v0 : Nat) (v2 : Int32) (v3 : Int32) (v4 : Int32) (v5 : Int32) (v6 : Int32) (S : AxS) : Option (AxS) :=
  if v2 ≤ v6 then (some S) else (ax_gr S v0 10 28 fun a1 => ax_is S v0 10 <| axB (F_X10_draw N v0 S) fun x4 T3 => if v3 ≤ x4 then (F_X10_yearsBy_49 N K24 v0 v2 v3 v4 v5 v6 0 12 a1 T3) else (F_X10_yearsBy_49 N K24 v0 v2 v3 v4 v5 v6 1 12 a1 T3))
def F_X10_yearsBy_24 (N : Nat)  : Nat → Nat → Int32 → Int32 → Int32 → Int32 → Int32 → AxS → Option (AxS) := axIter (fun KK => F_X10_yearsBy_24b N KK) (fun _ _ _ _ _ _ _ => none)
def F_X10_yearsBy (N : Nat) (v0 : Nat) (v1 : Int32) (v2 : Int32) (v3 : Int32) (v4 : Int32) (v5 : Int32) (S : AxS) : Option (AxS) :=
  ax_gr S v0 10 27 fun a1 => ax_gr S v0 10 28 fun a2 => axBV (F_X10_copies N a1 a2 S) fun T3 => ax_pi T3 v0 10 47 v1 fun T5 => ax_pi T5 v0 10 48 0 fun T6 => F_X10_yearsBy_24 N  N v0 v2 v3 v4 v5 0 T6

def F_X10_areYears (N : Nat) (v0 : Int32) (v1 : Int32) (v2 : Int32) (v3 : Int32) (S : AxS) : Option (Int32 × AxS) :=
  axB (F_X10_in N v0 1 96 S) fun x2 T1 => if x2 = 0 then (ax_rz 0 (some (0, T1))) else (axB (F_X10_in N v1 0 16 T1) fun x4 T3 => if x4 = 0 then (ax_rz 0 (some (0, T3))) else (axB (F_X10_in N v2 0 16 T3) fun x6 T5 => if x6 = 0 then (ax_rz 0 (some (0, T5))) else (axB (F_X10_in N v3 0 99 T5) fun x8 T7 => if x8 = 0 then (ax_rz 0 (some (0, T7))) else (ax_rz 1 (some (1, T7))))))

def F_X10_years_33 (N : Nat)  (v0 : Nat) (v1 : Int32) (v2 : Int32) (v3 : Int32) (v4 : Int32) (v5 : Int32) (v6 : Int32) (w0 : Int32) (w1 : Nat) (S : AxS) : Option (Int32 × AxS) :=
  ax_is S w1 10 <| axB (F_X10_bad N w1 w0 1 1 S) fun x3 T2 => if x3 = 0 then (ax_is T2 v0 10 <| axBV (F_X10_yearsBy N v0 v1 v2 v3 v4 v5 T2) fun T5 => if v6 = 0 then (ax_gr T5 v0 10 28 fun a7 => ax_ld T5 a7 0 fun x8 => some (x8, T5)) else (if v6 = 1 then (ax_gr T5 v0 10 28 fun a10 => ax_ld T5 a10 9 fun x11 => ax_gr T5 v0 10 27 fun a12 => ax_ld T5 a12 9 fun x13 => some (x11 - x13, T5)) else (if v6 = 2 then (ax_gr T5 v0 10 28 fun a15 => ax_ld T5 a15 10 fun x16 => ax_gr T5 v0 10 27 fun a17 => ax_ld T5 a17 10 fun x18 => some (x16 - x18, T5)) else (ax_gi T5 v0 10 48 fun x20 => some (x20, T5))))) else (some (0, T2))
def F_X10_years_28 (N : Nat)  (v0 : Nat) (v1 : Int32) (v2 : Int32) (v3 : Int32) (v4 : Int32) (v5 : Int32) (v6 : Int32) (w0 : Nat) (S : AxS) : Option (Int32 × AxS) :=
  F_X10_years_33 N  v0 v1 v2 v3 v4 v5 v6 1 w0 S
def F_X10_years (N : Nat) (v0 : Nat) (v1 : Int32) (v2 : Int32) (v3 : Int32) (v4 : Int32) (v5 : Int32) (v6 : Int32) (S : AxS) : Option (Int32 × AxS) :=
  ax_pi S v0 10 0 0 fun T1 => axB (F_X10_areYears N v2 v3 v4 v5 T1) fun x3 T2 => if x3 = 0 then (F_X10_years_28 N  v0 v1 v2 v3 v4 v5 v6 v0 T2) else (axB (F_X10_in N v6 0 3 T2) fun x5 T4 => if x5 = 0 then (F_X10_years_28 N  v0 v1 v2 v3 v4 v5 v6 v0 T4) else (F_X10_years_33 N  v0 v1 v2 v3 v4 v5 v6 0 v0 T4))

def F_X10_span_144 (N : Nat) (K66 : Nat → Int32 → Int32 → Int32 → Int32 → Int32 → Int32 → Int32 → Int32 → Int32 → Int32 → Int32 → AxS → Option (Int32 × AxS)) (v0 : Nat) (v1 : Int32) (v2 : Int32) (v3 : Int32) (v4 : Int32) (v5 : Int32) (v6 : Int32) (v7 : Int32) (v8 : Int32) (v9 : Int32) (v11 : Int32) (w0 : Int32) (w1 : Int32) (S : AxS) : Option (Int32 × AxS) :=
  K66 v0 v1 v2 v3 v4 v5 v6 v7 v8 v9 (w1 + w0) (v11 + 1) S
def F_X10_span_113 (N : Nat) (K66 : Nat → Int32 → Int32 → Int32 → Int32 → Int32 → Int32 → Int32 → Int32 → Int32 → Int32 → Int32 → AxS → Option (Int32 × AxS)) (v0 : Nat) (v1 : Int32) (v2 : Int32) (v3 : Int32) (v4 : Int32) (v5 : Int32) (v6 : Int32) (v7 : Int32) (v9 : Int32) (v10 : Int32) (v11 : Int32) (w0 : Int32) (S : AxS) : Option (Int32 × AxS) :=
  ax_gr S v0 10 28 fun a1 => ax_ld S a1 0 fun x2 => axB (F_X10_more N v9 x2 S) fun x4 T3 => ax_gr T3 v0 10 28 fun a5 => ax_ld T3 a5 0 fun x6 => if x6 = 0 then (F_X10_span_144 N K66 v0 v1 v2 v3 v4 v5 v6 v7 w0 x4 v11 1 v10 T3) else (F_X10_span_144 N K66 v0 v1 v2 v3 v4 v5 v6 v7 w0 x4 v11 0 v10 T3)
def F_X10_span_66b (N : Nat) (K66 : Nat → Int32 → Int32 → Int32 → Int32 → Int32 → Int32 → Int32 → Int32 → Int32 → Int32 → Int32 → AxS → Option (Int32 × AxS)) (v0 : Nat) (v1 : Int32) (v2 : Int32) (v3 : Int32) (v4 : Int32) (v5 : Int32) (v6 : Int32) (v7 : Int32) (v8 : Int32) (v9 : Int32) (v10 : Int32) (v11 : Int32) (S : AxS) : Option (Int32 × AxS) :=
  if v2 ≤ v11 then (if v7 = 0 then (some (v8, S)) else (if v7 = 1 then (some (v9, S)) else (some (v10, S)))) else (ax_is S v0 10 <| axBV (F_X10_yearsBy N v0 (v1 + v11) v3 v4 v5 v6 S) fun T2 => if v8 = ((-1)) then (ax_gr T2 v0 10 28 fun a8 => ax_ld T2 a8 0 fun x9 => F_X10_span_113 N K66 v0 v1 v2 v3 v4 v5 v6 v7 v9 v10 v11 x9 T2) else (ax_gr T2 v0 10 28 fun a4 => ax_ld T2 a4 0 fun x5 => axB (F_X10_less N v8 x5 T2) fun x7 T6 => F_X10_span_113 N K66 v0 v1 v2 v3 v4 v5 v6 v7 v9 v10 v11 x7 T6))
def F_X10_span_66 (N : Nat)  : Nat → Nat → Int32 → Int32 → Int32 → Int32 → Int32 → Int32 → Int32 → Int32 → Int32 → Int32 → Int32 → AxS → Option (Int32 × AxS) := axIter (fun KK => F_X10_span_66b N KK) (fun _ _ _ _ _ _ _ _ _ _ _ _ _ => none)
def F_X10_span_44 (N : Nat)  (v0 : Nat) (v1 : Int32) (v2 : Int32) (v3 : Int32) (v4 : Int32) (v5 : Int32) (v6 : Int32) (v7 : Int32) (w0 : Int32) (w1 : Nat) (S : AxS) : Option (Int32 × AxS) :=
  ax_is S w1 10 <| axB (F_X10_bad N w1 w0 1 1 S) fun x3 T2 => if x3 = 0 then (F_X10_span_66 N  N v0 v1 v2 v3 v4 v5 v6 v7 ((-1)) 0 0 0 T2) else (some (0, T2))
def F_X10_span_39 (N : Nat)  (v0 : Nat) (v1 : Int32) (v2 : Int32) (v3 : Int32) (v4 : Int32) (v5 : Int32) (v6 : Int32) (v7 : Int32) (w0 : Nat) (S : AxS) : Option (Int32 × AxS) :=
  F_X10_span_44 N  v0 v1 v2 v3 v4 v5 v6 v7 1 w0 S
def F_X10_span (N : Nat) (v0 : Nat) (v1 : Int32) (v2 : Int32) (v3 : Int32) (v4 : Int32) (v5 : Int32) (v6 : Int32) (v7 : Int32) (S : AxS) : Option (Int32 × AxS) :=
  ax_pi S v0 10 0 0 fun T1 => axB (F_X10_in N v2 1 20 T1) fun x3 T2 => if x3 = 0 then (F_X10_span_39 N  v0 v1 v2 v3 v4 v5 v6 v7 v0 T2) else (axB (F_X10_areYears N v3 v4 v5 v6 T2) fun x5 T4 => if x5 = 0 then (F_X10_span_39 N  v0 v1 v2 v3 v4 v5 v6 v7 v0 T4) else (axB (F_X10_in N v7 0 2 T4) fun x7 T6 => if x7 = 0 then (F_X10_span_39 N  v0 v1 v2 v3 v4 v5 v6 v7 v0 T6) else (F_X10_span_44 N  v0 v1 v2 v3 v4 v5 v6 v7 0 v0 T6)))

def F_X10_puts_11 (N : Nat)  (v0 : Nat) (v1 : Nat) (S : AxS) : Option (Int32 × AxS) :=
  ax_gi S v0 10 35 fun x1 => ax_pi S v0 10 35 (x1 + 1) fun T2 => ax_gi T2 v0 10 35 fun x3 => ax_ld T2 v1 (x3 - 1) fun x4 => some (x4, T2)
def F_X10_puts (N : Nat) (v0 : Nat) (v1 : Nat) (v2 : Int32) (v3 : Int32) (S : AxS) : Option (Int32 × AxS) :=
  if v3 = 0 then (ax_gi S v0 10 35 fun x1 => ax_st S v1 x1 v2 fun T2 => F_X10_puts_11 N  v0 v1 T2) else (F_X10_puts_11 N  v0 v1 S)

def F_X10_putsAll_62b (N : Nat) (K53 : Nat → Nat → Int32 → Int32 → AxS → Option (AxS)) (K62 : Nat → Nat → Int32 → Int32 → Int32 → AxS → Option (AxS)) (v0 : Nat) (v1 : Nat) (v2 : Int32) (v3 : Int32) (v4 : Int32) (S : AxS) : Option (AxS) :=
  if 29 ≤ v4 then (K53 v0 v1 v2 (v3 + 1) S) else (ax_gr S v0 10 29 fun a1 => ax_ldr S a1 v3 fun a2 => ax_gr S v0 10 29 fun a3 => ax_ldr S a3 v3 fun a4 => ax_ld S a4 v4 fun x5 => ax_is S v0 10 <| axB (F_X10_puts N v0 v1 x5 v2 S) fun x8 T7 => ax_st T7 a2 v4 x8 fun T9 => K62 v0 v1 v2 v3 (v4 + 1) T9)
def F_X10_putsAll_62 (N : Nat) (K53 : Nat → Nat → Int32 → Int32 → AxS → Option (AxS)) : Nat → Nat → Nat → Int32 → Int32 → Int32 → AxS → Option (AxS) := axIter (fun KK => F_X10_putsAll_62b N K53 KK) (fun _ _ _ _ _ _ => none)
def F_X10_putsAll_53b (N : Nat) (K53 : Nat → Nat → Int32 → Int32 → AxS → Option (AxS)) (v0 : Nat) (v1 : Nat) (v2 : Int32) (v3 : Int32) (S : AxS) : Option (AxS) :=
  if 16 ≤ v3 then (some S) else (F_X10_putsAll_62 N K53 N v0 v1 v2 v3 0 S)
def F_X10_putsAll_53 (N : Nat)  : Nat → Nat → Nat → Int32 → Int32 → AxS → Option (AxS) := axIter (fun KK => F_X10_putsAll_53b N KK) (fun _ _ _ _ _ => none)
def F_X10_putsAll_21b (N : Nat) (K21 : Nat → Nat → Int32 → Int32 → AxS → Option (AxS)) (v0 : Nat) (v1 : Nat) (v2 : Int32) (v3 : Int32) (S : AxS) : Option (AxS) :=
  if 29 ≤ v3 then (F_X10_putsAll_53 N  N v0 v1 v2 0 S) else (ax_gr S v0 10 27 fun a1 => ax_gr S v0 10 27 fun a2 => ax_ld S a2 v3 fun x3 => ax_is S v0 10 <| axB (F_X10_puts N v0 v1 x3 v2 S) fun x6 T5 => ax_st T5 a1 v3 x6 fun T7 => K21 v0 v1 v2 (v3 + 1) T7)
def F_X10_putsAll_21 (N : Nat)  : Nat → Nat → Nat → Int32 → Int32 → AxS → Option (AxS) := axIter (fun KK => F_X10_putsAll_21b N KK) (fun _ _ _ _ _ => none)
def F_X10_putsAll (N : Nat) (v0 : Nat) (v1 : Nat) (v2 : Int32) (S : AxS) : Option (AxS) :=
  ax_pi S v0 10 35 0 fun T1 => ax_gi T1 v0 10 32 fun x2 => ax_is T1 v0 10 <| axB (F_X10_puts N v0 v1 x2 v2 T1) fun x5 T4 => ax_pi T4 v0 10 32 x5 fun T6 => F_X10_putsAll_21 N  N v0 v1 v2 0 T6

def F_X10_image (N : Nat) (v0 : Nat) (S : AxS) : Option (Int32 × AxS) :=
  ax_pi S v0 10 0 0 fun T1 => ax_gi T1 v0 10 34 fun x2 => if x2 = 3 then (some ((-1), T1)) else (ax_gr T1 v0 10 30 fun a3 => ax_gi T1 v0 10 34 fun x4 => ax_ldr T1 a3 x4 fun a5 => ax_is T1 v0 10 <| axBV (F_X10_putsAll N v0 a5 0 T1) fun T7 => ax_gi T7 v0 10 34 fun x9 => ax_pi T7 v0 10 34 (x9 + 1) fun T10 => ax_gi T10 v0 10 34 fun x11 => some (x11, T10))

def F_X10_restore (N : Nat) (v0 : Nat) (S : AxS) : Option (Int32 × AxS) :=
  ax_pi S v0 10 0 0 fun T1 => ax_gi T1 v0 10 34 fun x2 => if x2 = 0 then (some ((-1), T1)) else (ax_gi T1 v0 10 34 fun x3 => ax_pi T1 v0 10 34 (x3 - 1) fun T4 => ax_gr T4 v0 10 30 fun a5 => ax_gi T4 v0 10 34 fun x6 => ax_ldr T4 a5 x6 fun a7 => ax_is T4 v0 10 <| axBV (F_X10_putsAll N v0 a7 1 T4) fun T9 => ax_pi T9 v0 10 33 0 fun T11 => ax_gi T11 v0 10 34 fun x12 => some (x12, T11))

def F_X10_status (N : Nat) (v0 : Nat) (v1 : Int32) (S : AxS) : Option (Int32 × AxS) :=
  ax_pi S v0 10 0 0 fun T1 => axB (F_X10_in N v1 0 1 T1) fun x3 T2 => if x3 = 0 then (some ((-1), T2)) else (ax_gr T2 v0 10 10 fun a4 => ax_ld T2 a4 v1 fun x5 => some (x5, T2))

def F_X10_kept (N : Nat) (v0 : Nat) (v1 : Int32) (S : AxS) : Option (Int32 × AxS) :=
  ax_pi S v0 10 0 0 fun T1 => if v1 = 0 then (ax_gi T1 v0 10 34 fun x4 => some (x4, T1)) else (if v1 = 1 then (ax_gi T1 v0 10 1 fun x3 => some (x3, T1)) else (if v1 = 2 then (ax_gi T1 v0 10 32 fun x2 => some (x2, T1)) else (some ((-1), T1))))
