def F_X0_clear_7b (N : Nat) (K7 : Nat → Int32 → AxS → Option (AxS)) (v0 : Nat) (v1 : Int32) (S : AxS) : Option (AxS) :=
  ax_gr S v0 0 0 fun a1 => ax_len S a1 fun x2 => if x2 ≤ v1 then (some S) else (ax_gr S v0 0 0 fun a3 => ax_st S a3 v1 ((-1)) fun T4 => K7 v0 (v1 + 1) T4)
def F_X0_clear_7 (N : Nat)  : Nat → Nat → Int32 → AxS → Option (AxS) := axIter (fun KK => F_X0_clear_7b N KK) (fun _ _ _ => none)
def F_X0_clear (N : Nat) (v0 : Nat) (S : AxS) : Option (AxS) :=
  ax_pi S v0 0 1 0 fun T1 => F_X0_clear_7 N  N v0 0 T1

def F_X9_at (N : Nat) (v0 : Nat) (v1 : Int32) (S : AxS) : Option (Int32 × AxS) :=
  if v1 < 0 then (some (0, S)) else (ax_len S v0 fun x1 => if x1 ≤ v1 then (some (0, S)) else (ax_ld S v0 v1 fun x2 => some (x2, S)))

def F_X7_sign_40 (N : Nat)  (v0 : Nat) (S : AxS) : Option (Int32 × AxS) :=
  ax_gi S v0 7 3 fun x1 => ax_gi S v0 7 2 fun x2 => if x2 ≤ x1 then (some ((-1), S)) else (ax_gr S v0 7 0 fun a3 => ax_gi S v0 7 3 fun x4 => axB (F_X9_at N a3 x4 S) fun x6 T5 => some (x6, T5))
def F_X7_sign_0b (N : Nat) (K0 : Nat → AxS → Option (Int32 × AxS)) (v0 : Nat) (S : AxS) : Option (Int32 × AxS) :=
  ax_gi S v0 7 3 fun x1 => ax_gi S v0 7 2 fun x2 => if x2 ≤ x1 then (F_X7_sign_40 N  v0 S) else (ax_gr S v0 7 0 fun a3 => ax_gi S v0 7 3 fun x4 => axB (F_X9_at N a3 x4 S) fun x6 T5 => if x6 = 32 then (ax_gi T5 v0 7 3 fun x7 => ax_pi T5 v0 7 3 (x7 + 1) fun T8 => K0 v0 T8) else (F_X7_sign_40 N  v0 T5))
def F_X7_sign_0 (N : Nat)  : Nat → Nat → AxS → Option (Int32 × AxS) := axIter (fun KK => F_X7_sign_0b N KK) (fun _ _ => none)
def F_X7_sign (N : Nat) (v0 : Nat) (S : AxS) : Option (Int32 × AxS) :=
  F_X7_sign_0 N  N v0 S

def F_X7_isDigit (N : Nat) (v0 : Int32) (S : AxS) : Option (Int32 × AxS) :=
  if v0 < 48 then (ax_rz 0 (some (0, S))) else (if 57 < v0 then (ax_rz 0 (some (0, S))) else (ax_rz 1 (some (1, S))))

def F_X7_fails (N : Nat) (v0 : Nat) (v1 : Int32) (v2 : Int32) (S : AxS) : Option (Int32 × AxS) :=
  ax_gi S v0 7 4 fun x1 => if x1 = 0 then (ax_pi S v0 7 4 v1 fun T2 => ax_pi T2 v0 7 5 v2 fun T3 => ax_rz 0 (some (0, T3))) else (ax_rz 0 (some (0, S)))

def F_J9_min_7cf53 (N : Nat) (v0 : Int32) (v1 : Int32) (S : AxS) : Option (Int32 × AxS) :=
  if v1 < v0 then (some (v1, S)) else (some (v0, S))

def F_X7_number_108 (N : Nat)  (v0 : Nat) (S : AxS) : Option (Int32 × AxS) :=
  ax_gi S v0 7 7 fun x1 => ax_is S v0 7 <| axB (F_X7_fails N v0 2 x1 S) fun x4 T3 => some ((-1), T3)
def F_X7_number_98 (N : Nat)  (v0 : Nat) (v1 : Int32) (v2 : Int32) (v3 : Int32) (S : AxS) : Option (Int32 × AxS) :=
  if v3 < v1 then (F_X7_number_108 N  v0 S) else (if v3 ≤ v2 then (some (v3, S)) else (F_X7_number_108 N  v0 S))
def F_X7_number_32b (N : Nat) (K32 : Nat → Int32 → Int32 → Int32 → AxS → Option (Int32 × AxS)) (v0 : Nat) (v1 : Int32) (v2 : Int32) (v3 : Int32) (S : AxS) : Option (Int32 × AxS) :=
  ax_gi S v0 7 3 fun x1 => ax_gi S v0 7 2 fun x2 => if x2 ≤ x1 then (F_X7_number_98 N  v0 v1 v2 v3 S) else (ax_gr S v0 7 0 fun a3 => ax_gi S v0 7 3 fun x4 => axB (F_X9_at N a3 x4 S) fun x6 T5 => axB (F_X7_isDigit N x6 T5) fun x8 T7 => if x8 = 0 then (F_X7_number_98 N  v0 v1 v2 v3 T7) else (ax_gr T7 v0 7 0 fun a9 => ax_gi T7 v0 7 3 fun x10 => axB (F_X9_at N a9 x10 T7) fun x12 T11 => axB (F_J9_min_7cf53 N 1000000 (((10 * v3) + x12) - 48) T11) fun x14 T13 => ax_gi T13 v0 7 3 fun x15 => ax_pi T13 v0 7 3 (x15 + 1) fun T16 => K32 v0 v1 v2 x14 T16))
def F_X7_number_32 (N : Nat)  : Nat → Nat → Int32 → Int32 → Int32 → AxS → Option (Int32 × AxS) := axIter (fun KK => F_X7_number_32b N KK) (fun _ _ _ _ _ => none)
def F_X7_number (N : Nat) (v0 : Nat) (v1 : Int32) (v2 : Int32) (S : AxS) : Option (Int32 × AxS) :=
  ax_is S v0 7 <| axB (F_X7_sign N v0 S) fun x3 T2 => axB (F_X7_isDigit N x3 T2) fun x5 T4 => if x5 = 0 then (ax_gi T4 v0 7 3 fun x8 => ax_is T4 v0 7 <| axB (F_X7_fails N v0 1 x8 T4) fun x11 T10 => some ((-1), T10)) else (ax_gi T4 v0 7 3 fun x6 => ax_pi T4 v0 7 7 x6 fun T7 => F_X7_number_32 N  N v0 v1 v2 0 T7)

def F_X9_put (N : Nat) (v0 : Nat) (v1 : Int32) (v2 : Int32) (S : AxS) : Option (AxS) :=
  if v1 < 0 then (some S) else (ax_len S v0 fun x1 => if x1 ≤ v1 then (some S) else (ax_st S v0 v1 v2 fun T2 => some T2))

def F_X7_takes (N : Nat) (v0 : Nat) (v1 : Int32) (S : AxS) : Option (Int32 × AxS) :=
  ax_is S v0 7 <| axB (F_X7_sign N v0 S) fun x3 T2 => if x3 = v1 then (ax_gi T2 v0 7 3 fun x4 => ax_pi T2 v0 7 3 (x4 + 1) fun T5 => ax_gi T5 v0 7 4 fun x6 => if x6 = 0 then (ax_rz 1 (some (1, T5))) else (ax_rz 0 (some (0, T5)))) else (ax_gi T2 v0 7 3 fun x7 => ax_is T2 v0 7 <| axB (F_X7_fails N v0 1 x7 T2) fun x10 T9 => ax_rz x10 (some (x10, T9)))

def F_X0_readLine (N : Nat) (v0 : Nat) (v1 : Nat) (S : AxS) : Option (Int32 × AxS) :=
  ax_is S v1 7 <| axB (F_X7_number N v1 0 59 S) fun x3 T2 => if x3 = ((-1)) then (ax_rz 0 (some (0, T2))) else (ax_gr T2 v0 0 0 fun a4 => axB (F_X9_at N a4 x3 T2) fun x6 T5 => if x6 = ((-1)) then (ax_gi T5 v0 0 1 fun x7 => if x7 < 8 then (ax_gr T5 v0 0 0 fun a8 => ax_is T5 v1 7 <| axB (F_X7_number N v1 0 999 T5) fun x11 T10 => axBV (F_X9_put N a8 x3 x11 T10) fun T12 => ax_gi T12 v0 0 1 fun x14 => ax_pi T12 v0 0 1 (x14 + 1) fun T15 => ax_is T15 v1 7 <| axB (F_X7_takes N v1 59 T15) fun x18 T17 => ax_rz x18 (some (x18, T17))) else (ax_gi T5 v1 7 7 fun x19 => ax_is T5 v1 7 <| axB (F_X7_fails N v1 3 x19 T5) fun x22 T21 => ax_rz x22 (some (x22, T21)))) else (ax_gi T5 v1 7 7 fun x23 => ax_is T5 v1 7 <| axB (F_X7_fails N v1 2 x23 T5) fun x26 T25 => ax_rz x26 (some (x26, T25))))

def F_X0_readFrom_36 (N : Nat)  (v1 : Nat) (S : AxS) : Option (Int32 × AxS) :=
  ax_gi S v1 7 4 fun x1 => if x1 = 0 then (ax_rz 1 (some (1, S))) else (ax_rz 0 (some (0, S)))
def F_X0_readFrom_6b (N : Nat) (K6 : Nat → Nat → Int32 → AxS → Option (Int32 × AxS)) (v0 : Nat) (v1 : Nat) (v2 : Int32) (S : AxS) : Option (Int32 × AxS) :=
  if 100 ≤ v2 then (F_X0_readFrom_36 N  v1 S) else (ax_is S v1 7 <| axB (F_X7_sign N v1 S) fun x3 T2 => if x3 = ((-1)) then (F_X0_readFrom_36 N  v1 T2) else (ax_is T2 v0 0 <| axB (F_X0_readLine N v0 v1 T2) fun x6 T5 => if x6 = 0 then (ax_rz 0 (some (0, T5))) else (K6 v0 v1 (v2 + 1) T5)))
def F_X0_readFrom_6 (N : Nat)  : Nat → Nat → Nat → Int32 → AxS → Option (Int32 × AxS) := axIter (fun KK => F_X0_readFrom_6b N KK) (fun _ _ _ _ => none)
def F_X0_readFrom (N : Nat) (v0 : Nat) (v1 : Nat) (S : AxS) : Option (Int32 × AxS) :=
  ax_is S v0 0 <| axBV (F_X0_clear N v0 S) fun T2 => F_X0_readFrom_6 N  N v0 v1 0 T2

def F_X1_clear_38b (N : Nat) (K38 : Nat → Int32 → AxS → Option (AxS)) (v0 : Nat) (v1 : Int32) (S : AxS) : Option (AxS) :=
  ax_gr S v0 1 7 fun a1 => ax_len S a1 fun x2 => if x2 ≤ v1 then (some S) else (ax_gr S v0 1 7 fun a3 => ax_st S a3 v1 0 fun T4 => K38 v0 (v1 + 1) T4)
def F_X1_clear_38 (N : Nat)  : Nat → Nat → Int32 → AxS → Option (AxS) := axIter (fun KK => F_X1_clear_38b N KK) (fun _ _ _ => none)
def F_X1_clear (N : Nat) (v0 : Nat) (S : AxS) : Option (AxS) :=
  ax_pi S v0 1 0 100 fun T1 => ax_pi T1 v0 1 1 5 fun T2 => ax_pi T2 v0 1 2 0 fun T3 => ax_pi T3 v0 1 3 0 fun T4 => ax_pi T4 v0 1 4 0 fun T5 => ax_pi T5 v0 1 5 0 fun T6 => ax_pi T6 v0 1 6 0 fun T7 => F_X1_clear_38 N  N v0 0 T7

def F_X7_word_13b (N : Nat) (K13 : Nat → AxS → Option (AxS)) (v0 : Nat) (S : AxS) : Option (AxS) :=
  ax_gi S v0 7 3 fun x1 => ax_gi S v0 7 2 fun x2 => if x2 ≤ x1 then (some S) else (ax_gr S v0 7 0 fun a3 => ax_gi S v0 7 3 fun x4 => axB (F_X9_at N a3 x4 S) fun x6 T5 => if x6 < 97 then (some T5) else (ax_gr T5 v0 7 0 fun a7 => ax_gi T5 v0 7 3 fun x8 => axB (F_X9_at N a7 x8 T5) fun x10 T9 => if 122 < x10 then (some T9) else (ax_gi T9 v0 7 3 fun x11 => ax_pi T9 v0 7 3 (x11 + 1) fun T12 => K13 v0 T12)))
def F_X7_word_13 (N : Nat)  : Nat → Nat → AxS → Option (AxS) := axIter (fun KK => F_X7_word_13b N KK) (fun _ _ => none)
def F_X7_word (N : Nat) (v0 : Nat) (S : AxS) : Option (AxS) :=
  ax_is S v0 7 <| axB (F_X7_sign N v0 S) fun x3 T2 => ax_gi T2 v0 7 3 fun x4 => ax_pi T2 v0 7 6 x4 fun T5 => F_X7_word_13 N  N v0 T5

def F_X7_isWord_20b (N : Nat) (K20 : Nat → Nat → Int32 → AxS → Option (Int32 × AxS)) (v0 : Nat) (v1 : Nat) (v2 : Int32) (S : AxS) : Option (Int32 × AxS) :=
  axB (F_J0_length_8abf5 N v1 S) fun x2 T1 => if x2 ≤ v2 then (ax_rz 1 (some (1, T1))) else (ax_gr T1 v0 7 0 fun a3 => ax_gi T1 v0 7 6 fun x4 => axB (F_X9_at N a3 (x4 + v2) T1) fun x6 T5 => axB (F_J0_charAt_5068e N v1 v2 T5) fun x8 T7 => if x6 = x8 then (K20 v0 v1 (v2 + 1) T7) else (ax_rz 0 (some (0, T7))))
def F_X7_isWord_20 (N : Nat)  : Nat → Nat → Nat → Int32 → AxS → Option (Int32 × AxS) := axIter (fun KK => F_X7_isWord_20b N KK) (fun _ _ _ _ => none)
def F_X7_isWord (N : Nat) (v0 : Nat) (v1 : Nat) (S : AxS) : Option (Int32 × AxS) :=
  ax_gi S v0 7 3 fun x1 => ax_gi S v0 7 6 fun x2 => axB (F_J0_length_8abf5 N v1 S) fun x4 T3 => if (x1 - x2) = x4 then (F_X7_isWord_20 N  N v0 v1 0 T3) else (ax_rz 0 (some (0, T3)))

def F_X1_clauseKind (N : Nat) (v0 : Nat) (S : AxS) : Option (Int32 × AxS) :=
  ax_is S v0 7 <| axB (F_X7_isWord N v0 (axTx S 1) S) fun x3 T2 => if x3 = 0 then (ax_is T2 v0 7 <| axB (F_X7_isWord N v0 (axTx T2 2) T2) fun x6 T5 => if x6 = 0 then (ax_is T5 v0 7 <| axB (F_X7_isWord N v0 (axTx T5 3) T5) fun x9 T8 => if x9 = 0 then (ax_is T8 v0 7 <| axB (F_X7_isWord N v0 (axTx T8 4) T8) fun x12 T11 => if x12 = 0 then (ax_is T11 v0 7 <| axB (F_X7_isWord N v0 (axTx T11 5) T11) fun x15 T14 => if x15 = 0 then (ax_is T14 v0 7 <| axB (F_X7_isWord N v0 (axTx T14 6) T14) fun x18 T17 => if x18 = 0 then (ax_is T17 v0 7 <| axB (F_X7_isWord N v0 (axTx T17 7) T17) fun x21 T20 => if x21 = 0 then (ax_is T20 v0 7 <| axB (F_X7_isWord N v0 (axTx T20 8) T20) fun x24 T23 => if x24 = 0 then (some (0, T23)) else (some (8, T23))) else (some (7, T20))) else (some (6, T17))) else (some (5, T14))) else (some (4, T11))) else (some (3, T8))) else (some (2, T5))) else (some (1, T2))

def F_X1_isFull (N : Nat) (v0 : Nat) (v1 : Int32) (S : AxS) : Option (Int32 × AxS) :=
  if v1 = 5 then (ax_gi S v0 1 3 fun x1 => if x1 < 6 then (ax_rz 0 (some (0, S))) else (ax_rz 1 (some (1, S)))) else (if v1 = 6 then (ax_gi S v0 1 4 fun x3 => if x3 < 8 then (ax_rz 0 (some (0, S))) else (ax_rz 1 (some (1, S)))) else (if v1 = 7 then (ax_gi S v0 1 5 fun x5 => if 8 ≤ x5 then (ax_rz 1 (some (1, S))) else (ax_gi S v0 1 5 fun x6 => ax_gi S v0 1 4 fun x7 => if x6 < x7 then (ax_rz 0 (some (0, S))) else (ax_rz 1 (some (1, S))))) else (if v1 = 8 then (ax_gi S v0 1 6 fun x9 => if x9 < 4 then (ax_rz 0 (some (0, S))) else (ax_rz 1 (some (1, S)))) else (ax_rz 0 (some (0, S))))))

def F_X1_readNumbers (N : Nat) (v0 : Nat) (v1 : Nat) (v2 : Int32) (S : AxS) : Option (AxS) :=
  if v2 = 1 then (ax_is S v1 7 <| axB (F_X7_number N v1 0 9999 S) fun x3 T2 => ax_pi T2 v0 1 0 x3 fun T4 => some T4) else (if v2 = 2 then (ax_is S v1 7 <| axB (F_X7_number N v1 0 20 S) fun x8 T7 => ax_pi T7 v0 1 1 x8 fun T9 => some T9) else (if v2 = 3 then (ax_is S v1 7 <| axB (F_X7_number N v1 0 999 S) fun x13 T12 => ax_pi T12 v0 1 2 x13 fun T14 => some T14) else (if v2 = 4 then (ax_is S v1 7 <| axB (F_X7_number N v1 0 11 S) fun x18 T17 => ax_gr T17 v0 1 7 fun a19 => ax_is T17 v1 7 <| axB (F_X7_number N v1 0 99 T17) fun x22 T21 => axBV (F_X9_put N a19 x18 x22 T21) fun T23 => some T23) else (if v2 = 5 then (ax_gr S v0 1 8 fun a26 => ax_gi S v0 1 3 fun x27 => ax_is S v1 7 <| axB (F_X7_number N v1 1 20 S) fun x30 T29 => axBV (F_X9_put N a26 x27 x30 T29) fun T31 => ax_gi T31 v0 1 3 fun x33 => ax_pi T31 v0 1 3 (x33 + 1) fun T34 => some T34) else (if v2 = 6 then (ax_gr S v0 1 9 fun a36 => ax_gi S v0 1 4 fun x37 => ax_is S v1 7 <| axB (F_X7_number N v1 0 9 S) fun x40 T39 => axBV (F_X9_put N a36 x37 x40 T39) fun T41 => ax_gi T41 v0 1 4 fun x43 => ax_pi T41 v0 1 4 (x43 + 1) fun T44 => some T44) else (if v2 = 7 then (ax_gr S v0 1 10 fun a46 => ax_gi S v0 1 5 fun x47 => ax_is S v1 7 <| axB (F_X7_number N v1 0 40 S) fun x50 T49 => axBV (F_X9_put N a46 x47 x50 T49) fun T51 => ax_gi T51 v0 1 5 fun x53 => ax_pi T51 v0 1 5 (x53 + 1) fun T54 => some T54) else (ax_gr S v0 1 11 fun a56 => ax_gi S v0 1 6 fun x57 => ax_is S v1 7 <| axB (F_X7_number N v1 1 99 S) fun x60 T59 => axBV (F_X9_put N a56 x57 x60 T59) fun T61 => ax_gi T61 v0 1 6 fun x63 => ax_pi T61 v0 1 6 (x63 + 1) fun T64 => some T64)))))))

def F_X1_readClause_35 (N : Nat)  (v1 : Nat) (S : AxS) : Option (Int32 × AxS) :=
  ax_gi S v1 7 6 fun x1 => ax_is S v1 7 <| axB (F_X7_fails N v1 3 x1 S) fun x4 T3 => ax_rz x4 (some (x4, T3))
def F_X1_readClause (N : Nat) (v0 : Nat) (v1 : Nat) (v2 : Int32) (S : AxS) : Option (Int32 × AxS) :=
  ax_is S v1 7 <| axBV (F_X7_word N v1 S) fun T2 => axB (F_X1_clauseKind N v1 T2) fun x5 T4 => if x5 = 0 then (ax_gi T4 v1 7 6 fun x15 => ax_is T4 v1 7 <| axB (F_X7_fails N v1 1 x15 T4) fun x18 T17 => ax_rz x18 (some (x18, T17))) else (if v2 = 0 then (ax_is T4 v0 1 <| axB (F_X1_isFull N v0 x5 T4) fun x8 T7 => if x8 = 0 then (ax_is T7 v0 1 <| axBV (F_X1_readNumbers N v0 v1 x5 T7) fun T10 => ax_is T10 v1 7 <| axB (F_X7_takes N v1 59 T10) fun x14 T13 => ax_rz x14 (some (x14, T13))) else (F_X1_readClause_35 N  v1 T7)) else (F_X1_readClause_35 N  v1 T4))

def F_X1_readFrom_48 (N : Nat)  (v1 : Nat) (S : AxS) : Option (Int32 × AxS) :=
  ax_gi S v1 7 4 fun x1 => if x1 = 0 then (ax_rz 1 (some (1, S))) else (ax_rz 0 (some (0, S)))
def F_X1_readFrom_34 (N : Nat) (K6 : Nat → Nat → Int32 → AxS → Option (Int32 × AxS)) (v0 : Nat) (v1 : Nat) (v2 : Int32) (w0 : Int32) (w1 : Nat) (w2 : Nat) (S : AxS) : Option (Int32 × AxS) :=
  ax_is S w2 1 <| axB (F_X1_readClause N w2 w1 w0 S) fun x3 T2 => if x3 = 0 then (ax_rz 0 (some (0, T2))) else (K6 v0 v1 (v2 + 1) T2)
def F_X1_readFrom_6b (N : Nat) (K6 : Nat → Nat → Int32 → AxS → Option (Int32 × AxS)) (v0 : Nat) (v1 : Nat) (v2 : Int32) (S : AxS) : Option (Int32 × AxS) :=
  if 600 ≤ v2 then (F_X1_readFrom_48 N  v1 S) else (ax_is S v1 7 <| axB (F_X7_sign N v1 S) fun x3 T2 => if x3 = ((-1)) then (F_X1_readFrom_48 N  v1 T2) else (if v2 < 60 then (F_X1_readFrom_34 N K6 v0 v1 v2 0 v1 v0 T2) else (F_X1_readFrom_34 N K6 v0 v1 v2 1 v1 v0 T2)))
def F_X1_readFrom_6 (N : Nat)  : Nat → Nat → Nat → Int32 → AxS → Option (Int32 × AxS) := axIter (fun KK => F_X1_readFrom_6b N KK) (fun _ _ _ _ => none)
def F_X1_readFrom (N : Nat) (v0 : Nat) (v1 : Nat) (S : AxS) : Option (Int32 × AxS) :=
  ax_is S v0 1 <| axBV (F_X1_clear N v0 S) fun T2 => F_X1_readFrom_6 N  N v0 v1 0 T2

def F_X1_loud (N : Nat) (v0 : Nat) (v1 : Int32) (v2 : Int32) (S : AxS) : Option (Int32 × AxS) :=
  ax_gr S v0 1 9 fun a1 => axB (F_X9_at N a1 v1 S) fun x3 T2 => if (1 + x3) ≤ 0 then (some (v2, T2)) else (ax_ne (1 + x3) <| some (v2 / (1 + x3), T2))

def F_X1_sleeps (N : Nat) (v0 : Nat) (v1 : Int32) (v2 : Int32) (v3 : Int32) (S : AxS) : Option (Int32 × AxS) :=
  ax_is S v0 1 <| axB (F_X1_loud N v0 v2 v3 S) fun x3 T2 => ax_gr T2 v0 1 10 fun a4 => axB (F_X9_at N a4 v1 T2) fun x6 T5 => if x6 < x3 then (ax_rz 0 (some (0, T5))) else (ax_rz 1 (some (1, T5)))

def F_X2_clear_33b (N : Nat) (K22 : Nat → Int32 → AxS → Option (AxS)) (K33 : Nat → Int32 → Int32 → AxS → Option (AxS)) (v0 : Nat) (v1 : Int32) (v2 : Int32) (S : AxS) : Option (AxS) :=
  ax_gr S v0 2 8 fun a1 => ax_ldr S a1 v1 fun a2 => ax_len S a2 fun x3 => if x3 ≤ v2 then (K22 v0 (v1 + 1) S) else (ax_gr S v0 2 8 fun a4 => ax_ldr S a4 v1 fun a5 => ax_st S a5 v2 0 fun T6 => K33 v0 v1 (v2 + 1) T6)
def F_X2_clear_33 (N : Nat) (K22 : Nat → Int32 → AxS → Option (AxS)) : Nat → Nat → Int32 → Int32 → AxS → Option (AxS) := axIter (fun KK => F_X2_clear_33b N K22 KK) (fun _ _ _ _ => none)
def F_X2_clear_22b (N : Nat) (K22 : Nat → Int32 → AxS → Option (AxS)) (v0 : Nat) (v1 : Int32) (S : AxS) : Option (AxS) :=
  ax_gr S v0 2 8 fun a1 => ax_len S a1 fun x2 => if x2 ≤ v1 then (some S) else (F_X2_clear_33 N K22 N v0 v1 0 S)
def F_X2_clear_22 (N : Nat)  : Nat → Nat → Int32 → AxS → Option (AxS) := axIter (fun KK => F_X2_clear_22b N KK) (fun _ _ _ => none)
def F_X2_clear (N : Nat) (v0 : Nat) (S : AxS) : Option (AxS) :=
  ax_pi S v0 2 1 0 fun T1 => ax_pi T1 v0 2 2 ((-1)) fun T2 => ax_pi T2 v0 2 3 ((-1)) fun T3 => ax_pi T3 v0 2 4 0 fun T4 => F_X2_clear_22 N  N v0 0 T4

def F_X2_add_29b (N : Nat) (K29 : Nat → Int32 → AxS → Option (AxS)) (v0 : Nat) (v3 : Int32) (S : AxS) : Option (AxS) :=
  ax_gr S v0 2 8 fun a1 => ax_len S a1 fun x2 => if x2 ≤ v3 then (some S) else (ax_gr S v0 2 7 fun a3 => axB (F_X9_at N a3 v3 S) fun x5 T4 => ax_gr T4 v0 2 8 fun a6 => ax_ldr T4 a6 v3 fun a7 => ax_gr T4 v0 2 8 fun a8 => ax_ldr T4 a8 v3 fun a9 => axB (F_X9_at N a9 x5 T4) fun x11 T10 => axBV (F_X9_put N a7 x5 (x11 + 1) T10) fun T12 => K29 v0 (v3 + 1) T12)
def F_X2_add_29 (N : Nat)  : Nat → Nat → Int32 → AxS → Option (AxS) := axIter (fun KK => F_X2_add_29b N KK) (fun _ _ _ => none)
def F_X2_add_17 (N : Nat)  (v0 : Nat) (S : AxS) : Option (AxS) :=
  ax_gi S v0 2 1 fun x1 => ax_pi S v0 2 1 (x1 + 1) fun T2 => F_X2_add_29 N  N v0 0 T2
def F_X2_add (N : Nat) (v0 : Nat) (v1 : Int32) (v2 : Int32) (S : AxS) : Option (AxS) :=
  ax_gi S v0 2 1 fun x1 => if x1 = 0 then (ax_pi S v0 2 2 v1 fun T2 => ax_pi T2 v0 2 3 v2 fun T3 => F_X2_add_17 N  v0 T3) else (F_X2_add_17 N  v0 S)

def F_J9_max_7cf53 (N : Nat) (v0 : Int32) (v1 : Int32) (S : AxS) : Option (Int32 × AxS) :=
  if v0 < v1 then (some (v1, S)) else (some (v0, S))

def F_X2_choose_99 (N : Nat) (K12 : Nat → Nat → Int32 → AxS → Option (AxS)) (v0 : Nat) (v1 : Nat) (v2 : Int32) (S : AxS) : Option (AxS) :=
  K12 v0 v1 (v2 + 1) S
def F_X2_choose_89 (N : Nat) (K12 : Nat → Nat → Int32 → AxS → Option (AxS)) (v0 : Nat) (v1 : Nat) (v2 : Int32) (v3 : Int32) (S : AxS) : Option (AxS) :=
  ax_pi S v0 2 5 v2 fun T1 => ax_pi T1 v0 2 6 v3 fun T2 => F_X2_choose_99 N K12 v0 v1 v2 T2
def F_X2_choose_41b (N : Nat) (K12 : Nat → Nat → Int32 → AxS → Option (AxS)) (K41 : Nat → Nat → Int32 → Int32 → Int32 → AxS → Option (AxS)) (v0 : Nat) (v1 : Nat) (v2 : Int32) (v3 : Int32) (v4 : Int32) (S : AxS) : Option (AxS) :=
  ax_gr S v0 2 8 fun a1 => ax_ldr S a1 v2 fun a2 => ax_len S a2 fun x3 => if x3 ≤ v4 then (ax_gi S v0 2 5 fun x4 => if x4 = ((-1)) then (F_X2_choose_89 N K12 v0 v1 v2 v3 S) else (ax_gi S v0 2 6 fun x5 => if x5 ≤ v3 then (F_X2_choose_99 N K12 v0 v1 v2 S) else (F_X2_choose_89 N K12 v0 v1 v2 v3 S))) else (ax_gr S v0 2 8 fun a6 => ax_ldr S a6 v2 fun a7 => ax_ld S a7 v4 fun x8 => axB (F_J9_max_7cf53 N v3 x8 S) fun x10 T9 => K41 v0 v1 v2 x10 (v4 + 1) T9)
def F_X2_choose_41 (N : Nat) (K12 : Nat → Nat → Int32 → AxS → Option (AxS)) : Nat → Nat → Nat → Int32 → Int32 → Int32 → AxS → Option (AxS) := axIter (fun KK => F_X2_choose_41b N K12 KK) (fun _ _ _ _ _ _ => none)
def F_X2_choose_12b (N : Nat) (K12 : Nat → Nat → Int32 → AxS → Option (AxS)) (v0 : Nat) (v1 : Nat) (v2 : Int32) (S : AxS) : Option (AxS) :=
  ax_gr S v0 2 8 fun a1 => ax_len S a1 fun x2 => if x2 ≤ v2 then (some S) else (ax_gr S v1 0 0 fun a3 => axB (F_X9_at N a3 v2 S) fun x5 T4 => if x5 = ((-1)) then (F_X2_choose_41 N K12 N v0 v1 v2 0 0 T4) else (F_X2_choose_99 N K12 v0 v1 v2 T4))
def F_X2_choose_12 (N : Nat)  : Nat → Nat → Nat → Int32 → AxS → Option (AxS) := axIter (fun KK => F_X2_choose_12b N KK) (fun _ _ _ _ => none)
def F_X2_choose (N : Nat) (v0 : Nat) (v1 : Nat) (S : AxS) : Option (AxS) :=
  ax_pi S v0 2 5 ((-1)) fun T1 => ax_pi T1 v0 2 6 ((-1)) fun T2 => F_X2_choose_12 N  N v0 v1 0 T2

def F_X5_take_98b (N : Nat) (K98 : Nat → Nat → Int32 → AxS → Option (AxS)) (v0 : Nat) (v1 : Nat) (v2 : Int32) (S : AxS) : Option (AxS) :=
  if 8 ≤ v2 then (some S) else (ax_gr S v0 5 12 fun a1 => ax_gr S v1 5 12 fun a2 => axB (F_X9_at N a2 v2 S) fun x4 T3 => axBV (F_X9_put N a1 v2 x4 T3) fun T5 => ax_gr T5 v0 5 13 fun a7 => ax_gr T5 v1 5 13 fun a8 => axB (F_X9_at N a8 v2 T5) fun x10 T9 => axBV (F_X9_put N a7 v2 x10 T9) fun T11 => K98 v0 v1 (v2 + 1) T11)
def F_X5_take_98 (N : Nat)  : Nat → Nat → Nat → Int32 → AxS → Option (AxS) := axIter (fun KK => F_X5_take_98b N KK) (fun _ _ _ _ => none)
def F_X5_take (N : Nat) (v0 : Nat) (v1 : Nat) (S : AxS) : Option (AxS) :=
  ax_gi S v1 5 0 fun x1 => ax_pi S v0 5 0 x1 fun T2 => ax_gi T2 v1 5 1 fun x3 => ax_pi T2 v0 5 1 x3 fun T4 => ax_gi T4 v1 5 2 fun x5 => ax_pi T4 v0 5 2 x5 fun T6 => ax_gi T6 v1 5 3 fun x7 => ax_pi T6 v0 5 3 x7 fun T8 => ax_gi T8 v1 5 4 fun x9 => ax_pi T8 v0 5 4 x9 fun T10 => ax_gi T10 v1 5 5 fun x11 => ax_pi T10 v0 5 5 x11 fun T12 => ax_gi T12 v1 5 6 fun x13 => ax_pi T12 v0 5 6 x13 fun T14 => ax_gi T14 v1 5 7 fun x15 => ax_pi T14 v0 5 7 x15 fun T16 => ax_gi T16 v1 5 8 fun x17 => ax_pi T16 v0 5 8 x17 fun T18 => ax_gi T18 v1 5 9 fun x19 => ax_pi T18 v0 5 9 x19 fun T20 => ax_gi T20 v1 5 10 fun x21 => ax_pi T20 v0 5 10 x21 fun T22 => ax_gi T22 v1 5 11 fun x23 => ax_pi T22 v0 5 11 x23 fun T24 => F_X5_take_98 N  N v0 v1 0 T24

def F_X8_take_10b (N : Nat) (K10 : Nat → Nat → Int32 → AxS → Option (AxS)) (v0 : Nat) (v1 : Nat) (v2 : Int32) (S : AxS) : Option (AxS) :=
  ax_gi S v0 8 1 fun x1 => if x1 ≤ v2 then (some S) else (ax_gr S v0 8 0 fun a2 => ax_len S a2 fun x3 => if x3 ≤ v2 then (some S) else (ax_gr S v1 8 0 fun a4 => ax_len S a4 fun x5 => if x5 ≤ v2 then (some S) else (ax_gr S v0 8 0 fun a6 => ax_ldr S a6 v2 fun a7 => ax_gr S v1 8 0 fun a8 => ax_ldr S a8 v2 fun a9 => ax_is S a7 5 <| axBV (F_X5_take N a7 a9 S) fun T11 => K10 v0 v1 (v2 + 1) T11)))
def F_X8_take_10 (N : Nat)  : Nat → Nat → Nat → Int32 → AxS → Option (AxS) := axIter (fun KK => F_X8_take_10b N KK) (fun _ _ _ _ => none)
def F_X8_take (N : Nat) (v0 : Nat) (v1 : Nat) (S : AxS) : Option (AxS) :=
  ax_gi S v1 8 1 fun x1 => ax_pi S v0 8 1 x1 fun T2 => F_X8_take_10 N  N v0 v1 0 T2

def F_X3_take (N : Nat) (v0 : Nat) (v1 : Nat) (v2 : Nat) (S : AxS) : Option (AxS) :=
  ax_gr S v0 3 0 fun a1 => ax_is S a1 5 <| axBV (F_X5_take N a1 v1 S) fun T3 => ax_gr T3 v0 3 1 fun a5 => ax_is T3 a5 8 <| axBV (F_X8_take N a5 v2 T3) fun T7 => some T7

def F_X4_emit (N : Nat) (v0 : Nat) (v1 : Int32) (S : AxS) : Option (AxS) :=
  ax_gr S v0 4 0 fun a1 => ax_gi S v0 4 3 fun x2 => axBV (F_X9_put N a1 x2 v1 S) fun T3 => ax_gi T3 v0 4 3 fun x5 => ax_pi T3 v0 4 3 (x5 + 1) fun T6 => some T6

def F_X4_tenth (N : Nat) (v0 : Nat) (S : AxS) : Option (AxS) :=
  ax_pi S v0 4 3 0 fun T1 => ax_is T1 v0 4 <| axBV (F_X4_emit N v0 1000 T1) fun T3 => ax_is T3 v0 4 <| axBV (F_X4_emit N v0 10 T3) fun T6 => ax_is T6 v0 4 <| axBV (F_X4_emit N v0 2003 T6) fun T9 => some T9

def F_X4_inputOf (N : Nat) (v0 : Nat) (S : AxS) : Option (Int32 × AxS) :=
  ax_is S v0 7 <| axB (F_X7_isWord N v0 (axTx S 11) S) fun x3 T2 => if x3 = 0 then (ax_is T2 v0 7 <| axB (F_X7_isWord N v0 (axTx T2 12) T2) fun x6 T5 => if x6 = 0 then (ax_is T5 v0 7 <| axB (F_X7_isWord N v0 (axTx T5 13) T5) fun x9 T8 => if x9 = 0 then (ax_is T8 v0 7 <| axB (F_X7_isWord N v0 (axTx T8 14) T8) fun x12 T11 => if x12 = 0 then (ax_is T11 v0 7 <| axB (F_X7_isWord N v0 (axTx T11 15) T11) fun x15 T14 => if x15 = 0 then (ax_is T14 v0 7 <| axB (F_X7_isWord N v0 (axTx T14 16) T14) fun x18 T17 => if x18 = 0 then (ax_is T17 v0 7 <| axB (F_X7_isWord N v0 (axTx T17 17) T17) fun x21 T20 => if x21 = 0 then (some ((-1), T20)) else (some (6, T20))) else (some (5, T17))) else (some (4, T14))) else (some (3, T11))) else (some (2, T8))) else (some (1, T5))) else (some (0, T2))

def F_X4_readUnit_208 (N : Nat) (kr : Nat → Nat → Int32 → AxS → Option (Int32 × AxS))  (v5 : Int32) (w0 : Int32) (w1 : Nat) (S : AxS) : Option (Int32 × AxS) :=
  ax_is S w1 4 <| axBV (F_X4_emit N w1 w0 S) fun T2 => ax_rz v5 (some (v5, T2))
def F_X4_readUnit_191 (N : Nat) (kr : Nat → Nat → Int32 → AxS → Option (Int32 × AxS))  (v0 : Nat) (v4 : Int32) (w0 : Int32) (S : AxS) : Option (Int32 × AxS) :=
  if v4 = 0 then (F_X4_readUnit_208 N kr  w0 2006 v0 S) else (F_X4_readUnit_208 N kr  w0 2005 v0 S)
def F_X4_readUnit_190 (N : Nat) (kr : Nat → Nat → Int32 → AxS → Option (Int32 × AxS))  (v0 : Nat) (v4 : Int32) (S : AxS) : Option (Int32 × AxS) :=
  F_X4_readUnit_191 N kr  v0 v4 0 S
def F_X4_readUnit_121 (N : Nat) (kr : Nat → Nat → Int32 → AxS → Option (Int32 × AxS))  (v0 : Nat) (v1 : Nat) (v2 : Int32) (v4 : Int32) (S : AxS) : Option (Int32 × AxS) :=
  if v2 < 6 then (ax_is S v1 7 <| axB (F_X7_takes N v1 91 S) fun x3 T2 => if x3 = 0 then (F_X4_readUnit_190 N kr  v0 v4 T2) else (ax_is T2 v0 4 <| axB (kr v0 v1 (v2 + 1) T2) fun x6 T5 => if x6 = 0 then (F_X4_readUnit_190 N kr  v0 v4 T5) else (ax_is T5 v1 7 <| axB (F_X7_takes N v1 44 T5) fun x9 T8 => if x9 = 0 then (F_X4_readUnit_190 N kr  v0 v4 T8) else (ax_is T8 v0 4 <| axB (kr v0 v1 (v2 + 1) T8) fun x12 T11 => if x12 = 0 then (F_X4_readUnit_190 N kr  v0 v4 T11) else (ax_is T11 v1 7 <| axB (F_X7_takes N v1 93 T11) fun x15 T14 => if x15 = 0 then (F_X4_readUnit_190 N kr  v0 v4 T14) else (F_X4_readUnit_191 N kr  v0 v4 1 T14)))))) else (ax_gi S v1 7 6 fun x16 => ax_is S v1 7 <| axB (F_X7_fails N v1 3 x16 S) fun x19 T18 => ax_rz x19 (some (x19, T18)))
def F_X4_readUnit (N : Nat) (kr : Nat → Nat → Int32 → AxS → Option (Int32 × AxS)) (v0 : Nat) (v1 : Nat) (v2 : Int32) (S : AxS) : Option (Int32 × AxS) :=
  ax_is S v1 7 <| axB (F_X7_sign N v1 S) fun x3 T2 => axB (F_X7_isDigit N x3 T2) fun x5 T4 => if x5 = 0 then (if x3 = 40 then (if v2 < 6 then (ax_gi T4 v1 7 3 fun x24 => ax_pi T4 v1 7 3 (x24 + 1) fun T25 => ax_is T25 v0 4 <| axB (kr v0 v1 (v2 + 1) T25) fun x28 T27 => if x28 = 0 then (ax_rz 0 (some (0, T27))) else (ax_is T27 v1 7 <| axB (F_X7_takes N v1 41 T27) fun x31 T30 => if x31 = 0 then (ax_rz 0 (some (0, T30))) else (ax_rz 1 (some (1, T30))))) else (ax_gi T4 v1 7 3 fun x32 => ax_is T4 v1 7 <| axB (F_X7_fails N v1 3 x32 T4) fun x35 T34 => ax_rz x35 (some (x35, T34)))) else (ax_is T4 v1 7 <| axBV (F_X7_word N v1 T4) fun T7 => ax_is T7 v1 7 <| axB (F_X7_isWord N v1 (axTx T7 9) T7) fun x11 T10 => if x11 = 0 then (ax_is T10 v1 7 <| axB (F_X7_isWord N v1 (axTx T10 10) T10) fun x14 T13 => if x14 = 0 then (axB (F_X4_inputOf N v1 T13) fun x16 T15 => if x16 = ((-1)) then (ax_gi T15 v1 7 6 fun x20 => ax_is T15 v1 7 <| axB (F_X7_fails N v1 1 x20 T15) fun x23 T22 => ax_rz x23 (some (x23, T22))) else (ax_is T15 v0 4 <| axBV (F_X4_emit N v0 (1000 + x16) T15) fun T18 => ax_rz 1 (some (1, T18)))) else (F_X4_readUnit_121 N kr  v0 v1 v2 x11 T13)) else (F_X4_readUnit_121 N kr  v0 v1 v2 x11 T10))) else (ax_is T4 v1 7 <| axB (F_X7_number N v1 0 999 T4) fun x38 T37 => ax_is T37 v0 4 <| axBV (F_X4_emit N v0 x38 T37) fun T40 => ax_gi T40 v1 7 4 fun x42 => if x42 = 0 then (ax_rz 1 (some (1, T40))) else (ax_rz 0 (some (0, T40))))

def F_X4_readProduct_100 (N : Nat) (kr : Nat → Nat → Int32 → AxS → Option (Int32 × AxS)) (K13 : Nat → Nat → Int32 → Int32 → AxS → Option (Int32 × AxS)) (v0 : Nat) (v1 : Nat) (v2 : Int32) (v3 : Int32) (w0 : Int32) (w1 : Nat) (S : AxS) : Option (Int32 × AxS) :=
  ax_is S w1 4 <| axBV (F_X4_emit N w1 w0 S) fun T2 => K13 v0 v1 v2 (v3 + 1) T2
def F_X4_readProduct_49 (N : Nat) (kr : Nat → Nat → Int32 → AxS → Option (Int32 × AxS)) (K13 : Nat → Nat → Int32 → Int32 → AxS → Option (Int32 × AxS)) (v0 : Nat) (v1 : Nat) (v2 : Int32) (v3 : Int32) (v4 : Int32) (S : AxS) : Option (Int32 × AxS) :=
  ax_gi S v1 7 3 fun x1 => ax_pi S v1 7 3 (x1 + 1) fun T2 => ax_is T2 v0 4 <| axB (F_X4_readUnit N kr v0 v1 v2 T2) fun x5 T4 => if x5 = 0 then (ax_rz 0 (some (0, T4))) else (if v4 = 42 then (F_X4_readProduct_100 N kr K13 v0 v1 v2 v3 2002 v0 T4) else (if v4 = 47 then (F_X4_readProduct_100 N kr K13 v0 v1 v2 v3 2003 v0 T4) else (F_X4_readProduct_100 N kr K13 v0 v1 v2 v3 2004 v0 T4)))
def F_X4_readProduct_13b (N : Nat) (kr : Nat → Nat → Int32 → AxS → Option (Int32 × AxS)) (K13 : Nat → Nat → Int32 → Int32 → AxS → Option (Int32 × AxS)) (v0 : Nat) (v1 : Nat) (v2 : Int32) (v3 : Int32) (S : AxS) : Option (Int32 × AxS) :=
  if 150 ≤ v3 then (ax_rz 1 (some (1, S))) else (ax_is S v1 7 <| axB (F_X7_sign N v1 S) fun x3 T2 => if x3 = 42 then (F_X4_readProduct_49 N kr K13 v0 v1 v2 v3 x3 T2) else (if x3 = 47 then (F_X4_readProduct_49 N kr K13 v0 v1 v2 v3 x3 T2) else (if x3 = 37 then (F_X4_readProduct_49 N kr K13 v0 v1 v2 v3 x3 T2) else (ax_rz 1 (some (1, T2))))))
def F_X4_readProduct_13 (N : Nat) (kr : Nat → Nat → Int32 → AxS → Option (Int32 × AxS))  : Nat → Nat → Nat → Int32 → Int32 → AxS → Option (Int32 × AxS) := axIter (fun KK => F_X4_readProduct_13b N kr KK) (fun _ _ _ _ _ => none)
def F_X4_readProduct (N : Nat) (kr : Nat → Nat → Int32 → AxS → Option (Int32 × AxS)) (v0 : Nat) (v1 : Nat) (v2 : Int32) (S : AxS) : Option (Int32 × AxS) :=
  ax_is S v0 4 <| axB (F_X4_readUnit N kr v0 v1 v2 S) fun x3 T2 => if x3 = 0 then (ax_rz 0 (some (0, T2))) else (F_X4_readProduct_13 N kr  N v0 v1 v2 0 T2)

def F_X4_readSum_80 (N : Nat) (kr : Nat → Nat → Int32 → AxS → Option (Int32 × AxS)) (K13 : Nat → Nat → Int32 → Int32 → AxS → Option (Int32 × AxS)) (v0 : Nat) (v1 : Nat) (v2 : Int32) (v3 : Int32) (w0 : Int32) (w1 : Nat) (S : AxS) : Option (Int32 × AxS) :=
  ax_is S w1 4 <| axBV (F_X4_emit N w1 w0 S) fun T2 => K13 v0 v1 v2 (v3 + 1) T2
def F_X4_readSum_42 (N : Nat) (kr : Nat → Nat → Int32 → AxS → Option (Int32 × AxS)) (K13 : Nat → Nat → Int32 → Int32 → AxS → Option (Int32 × AxS)) (v0 : Nat) (v1 : Nat) (v2 : Int32) (v3 : Int32) (v4 : Int32) (S : AxS) : Option (Int32 × AxS) :=
  ax_gi S v1 7 3 fun x1 => ax_pi S v1 7 3 (x1 + 1) fun T2 => ax_is T2 v0 4 <| axB (F_X4_readProduct N kr v0 v1 v2 T2) fun x5 T4 => if x5 = 0 then (ax_rz 0 (some (0, T4))) else (if v4 = 43 then (F_X4_readSum_80 N kr K13 v0 v1 v2 v3 2000 v0 T4) else (F_X4_readSum_80 N kr K13 v0 v1 v2 v3 2001 v0 T4))
def F_X4_readSum_13b (N : Nat) (kr : Nat → Nat → Int32 → AxS → Option (Int32 × AxS)) (K13 : Nat → Nat → Int32 → Int32 → AxS → Option (Int32 × AxS)) (v0 : Nat) (v1 : Nat) (v2 : Int32) (v3 : Int32) (S : AxS) : Option (Int32 × AxS) :=
  if 150 ≤ v3 then (ax_rz 1 (some (1, S))) else (ax_is S v1 7 <| axB (F_X7_sign N v1 S) fun x3 T2 => if x3 = 43 then (F_X4_readSum_42 N kr K13 v0 v1 v2 v3 x3 T2) else (if x3 = 45 then (F_X4_readSum_42 N kr K13 v0 v1 v2 v3 x3 T2) else (ax_rz 1 (some (1, T2)))))
def F_X4_readSum_13 (N : Nat) (kr : Nat → Nat → Int32 → AxS → Option (Int32 × AxS))  : Nat → Nat → Nat → Int32 → Int32 → AxS → Option (Int32 × AxS) := axIter (fun KK => F_X4_readSum_13b N kr KK) (fun _ _ _ _ _ => none)
def F_X4_readSum (N : Nat) (kr : Nat → Nat → Int32 → AxS → Option (Int32 × AxS)) (v0 : Nat) (v1 : Nat) (v2 : Int32) (S : AxS) : Option (Int32 × AxS) :=
  ax_is S v0 4 <| axB (F_X4_readProduct N kr v0 v1 v2 S) fun x3 T2 => if x3 = 0 then (ax_rz 0 (some (0, T2))) else (F_X4_readSum_13 N kr  N v0 v1 v2 0 T2)
def GG_X4_readSum (N : Nat) : Nat → Nat → Nat → Int32 → AxS → Option (Int32 × AxS) := axIter (fun kr => F_X4_readSum N kr) (fun _ _ _ _ => none)
def G_X4_readSum (N : Nat) : Nat → Nat → Int32 → AxS → Option (Int32 × AxS) := GG_X4_readSum N 9

def F_X4_readFrom (N : Nat) (v0 : Nat) (v1 : Nat) (S : AxS) : Option (Int32 × AxS) :=
  ax_pi S v0 4 3 0 fun T1 => ax_is T1 v0 4 <| axB (G_X4_readSum N v0 v1 0 T1) fun x4 T3 => if x4 = 0 then (ax_rz 0 (some (0, T3))) else (ax_is T3 v1 7 <| axB (F_X7_sign N v1 T3) fun x7 T6 => if x7 = ((-1)) then (ax_rz 1 (some (1, T6))) else (ax_gi T6 v1 7 3 fun x8 => ax_is T6 v1 7 <| axB (F_X7_fails N v1 1 x8 T6) fun x11 T10 => if x11 = 0 then (ax_rz 0 (some (0, T10))) else (ax_rz 1 (some (1, T10)))))

def F_X4_done (N : Nat) (v0 : Int32) (v1 : Int32) (v2 : Int32) (S : AxS) : Option (Int32 × AxS) :=
  if v0 = 2000 then (some (v1 + v2, S)) else (if v0 = 2001 then (some (v1 - v2, S)) else (if v0 = 2002 then (some (v1 * v2, S)) else (if v0 = 2003 then (if v2 = 0 then (some (0, S)) else (ax_ne v2 <| some (v1 / v2, S))) else (if v0 = 2004 then (if v2 = 0 then (some (0, S)) else (ax_ne v2 <| some (v1 - v1 / v2 * v2, S))) else (if v0 = 2005 then (axB (F_J9_min_7cf53 N v1 v2 S) fun x7 T6 => some (x7, T6)) else (axB (F_J9_max_7cf53 N v1 v2 S) fun x10 T9 => some (x10, T9)))))))

def F_X4_tolls_182 (N : Nat) (K74 : Nat → Int32 → Int32 → AxS → Option (Int32 × AxS)) (v0 : Nat) (v8 : Int32) (v9 : Int32) (S : AxS) : Option (Int32 × AxS) :=
  K74 v0 v8 (v9 + 1) S
def F_X4_tolls_176 (N : Nat) (K74 : Nat → Int32 → Int32 → AxS → Option (Int32 × AxS)) (v0 : Nat) (v8 : Int32) (v9 : Int32) (w0 : Int32) (w1 : Int32) (w2 : Nat) (S : AxS) : Option (Int32 × AxS) :=
  axBV (F_X9_put N w2 w1 w0 S) fun T1 => F_X4_tolls_182 N K74 v0 (v8 + 1) v9 T1
def F_X4_tolls_74b (N : Nat) (K74 : Nat → Int32 → Int32 → AxS → Option (Int32 × AxS)) (v0 : Nat) (v8 : Int32) (v9 : Int32) (S : AxS) : Option (Int32 × AxS) :=
  ax_gi S v0 4 3 fun x1 => if x1 ≤ v9 then (ax_gr S v0 4 2 fun a2 => axB (F_X9_at N a2 0 S) fun x4 T3 => axB (F_J9_min_7cf53 N 999 x4 T3) fun x6 T5 => axB (F_J9_max_7cf53 N 0 x6 T5) fun x8 T7 => some (x8, T7)) else (ax_gr S v0 4 0 fun a9 => axB (F_X9_at N a9 v9 S) fun x11 T10 => if x11 < 2000 then (ax_gr T10 v0 4 2 fun a12 => if 1000 ≤ x11 then (ax_gr T10 v0 4 1 fun a13 => axB (F_X9_at N a13 (x11 - 1000) T10) fun x15 T14 => F_X4_tolls_176 N K74 v0 v8 v9 x15 v8 a12 T14) else (F_X4_tolls_176 N K74 v0 v8 v9 x11 v8 a12 T10)) else (ax_gr T10 v0 4 2 fun a16 => ax_gr T10 v0 4 2 fun a17 => axB (F_X9_at N a17 ((v8 + (-1)) - 1) T10) fun x19 T18 => ax_gr T18 v0 4 2 fun a20 => axB (F_X9_at N a20 (v8 + (-1)) T18) fun x22 T21 => axB (F_X4_done N x11 x19 x22 T21) fun x24 T23 => axBV (F_X9_put N a16 ((v8 + (-1)) - 1) x24 T23) fun T25 => F_X4_tolls_182 N K74 v0 (v8 + (-1)) v9 T25))
def F_X4_tolls_74 (N : Nat)  : Nat → Nat → Int32 → Int32 → AxS → Option (Int32 × AxS) := axIter (fun KK => F_X4_tolls_74b N KK) (fun _ _ _ _ => none)
def F_X4_tolls (N : Nat) (v0 : Nat) (v1 : Int32) (v2 : Int32) (v3 : Int32) (v4 : Int32) (v5 : Int32) (v6 : Int32) (v7 : Int32) (S : AxS) : Option (Int32 × AxS) :=
  ax_gr S v0 4 1 fun a1 => axBV (F_X9_put N a1 0 v1 S) fun T2 => ax_gr T2 v0 4 1 fun a4 => axBV (F_X9_put N a4 1 v2 T2) fun T5 => ax_gr T5 v0 4 1 fun a7 => axBV (F_X9_put N a7 2 v3 T5) fun T8 => ax_gr T8 v0 4 1 fun a10 => axBV (F_X9_put N a10 3 v4 T8) fun T11 => ax_gr T11 v0 4 1 fun a13 => axBV (F_X9_put N a13 4 v5 T11) fun T14 => ax_gr T14 v0 4 1 fun a16 => axBV (F_X9_put N a16 5 v6 T14) fun T17 => ax_gr T17 v0 4 1 fun a19 => axBV (F_X9_put N a19 6 v7 T17) fun T20 => F_X4_tolls_74 N  N v0 0 0 T20

def F_X5_begin_68b (N : Nat) (K68 : Nat → Int32 → AxS → Option (AxS)) (v0 : Nat) (v2 : Int32) (S : AxS) : Option (AxS) :=
  if 8 ≤ v2 then (some S) else (ax_gr S v0 5 12 fun a1 => axBV (F_X9_put N a1 v2 v2 S) fun T2 => ax_gr T2 v0 5 13 fun a4 => axBV (F_X9_put N a4 v2 0 T2) fun T5 => K68 v0 (v2 + 1) T5)
def F_X5_begin_68 (N : Nat)  : Nat → Nat → Int32 → AxS → Option (AxS) := axIter (fun KK => F_X5_begin_68b N KK) (fun _ _ _ => none)
def F_X5_begin (N : Nat) (v0 : Nat) (v1 : Nat) (S : AxS) : Option (AxS) :=
  ax_gi S v1 1 0 fun x1 => ax_pi S v0 5 0 x1 fun T2 => ax_gi T2 v1 1 2 fun x3 => ax_pi T2 v0 5 1 x3 fun T4 => ax_pi T4 v0 5 2 0 fun T5 => ax_pi T5 v0 5 3 0 fun T6 => ax_pi T6 v0 5 4 0 fun T7 => ax_pi T7 v0 5 5 0 fun T8 => ax_pi T8 v0 5 6 0 fun T9 => ax_pi T9 v0 5 7 0 fun T10 => ax_pi T10 v0 5 8 0 fun T11 => ax_pi T11 v0 5 9 0 fun T12 => ax_pi T12 v0 5 10 0 fun T13 => ax_pi T13 v0 5 11 0 fun T14 => F_X5_begin_68 N  N v0 0 T14

def F_X5_pays (N : Nat) (v0 : Nat) (v1 : Int32) (S : AxS) : Option (Int32 × AxS) :=
  ax_gi S v0 5 1 fun x1 => if x1 < v1 then (ax_rz 0 (some (0, S))) else (ax_gi S v0 5 0 fun x2 => if v1 ≤ x2 then (ax_gi S v0 5 1 fun x3 => ax_pi S v0 5 1 (x3 - v1) fun T4 => ax_gi T4 v0 5 0 fun x5 => ax_pi T4 v0 5 0 (x5 - v1) fun T6 => ax_gi T6 v0 5 4 fun x7 => ax_pi T6 v0 5 4 (x7 + v1) fun T8 => ax_rz 1 (some (1, T8))) else (ax_rz 0 (some (0, S))))

def F_X5_gives (N : Nat) (v0 : Nat) (v1 : Int32) (v2 : Int32) (S : AxS) : Option (Int32 × AxS) :=
  ax_gi S v0 5 9 fun x1 => if ((x1 >>> (v1 &&& 31)) &&& 1) = 1 then (ax_rz 0 (some (0, S))) else (ax_gi S v0 5 9 fun x2 => ax_pi S v0 5 9 (x2 ||| (1 <<< (v1 &&& 31))) fun T3 => ax_gi T3 v0 5 1 fun x4 => axB (F_J9_min_7cf53 N 9999 (x4 + v2) T3) fun x6 T5 => ax_pi T5 v0 5 1 x6 fun T7 => ax_rz 1 (some (1, T7)))

def F_X5_waxes (N : Nat) (v0 : Nat) (S : AxS) : Option (Int32 × AxS) :=
  ax_gi S v0 5 5 fun x1 => if x1 = 1 then (ax_rz 0 (some (0, S))) else (ax_pi S v0 5 5 1 fun T2 => ax_rz 1 (some (1, T2)))

def F_X5_hangUp (N : Nat) (v0 : Nat) (v1 : Int32) (S : AxS) : Option (Int32 × AxS) :=
  ax_gi S v0 5 6 fun x1 => if x1 ≤ 0 then (ax_pi S v0 5 6 v1 fun T2 => ax_pi T2 v0 5 7 7 fun T3 => ax_rz 1 (some (1, T3))) else (ax_rz 0 (some (0, S)))

def F_X5_swaps (N : Nat) (v0 : Nat) (v1 : Int32) (v2 : Int32) (S : AxS) : Option (Int32 × AxS) :=
  if v1 = v2 then (ax_rz 0 (some (0, S))) else (ax_gr S v0 5 12 fun a1 => axB (F_X9_at N a1 v1 S) fun x3 T2 => ax_gr T2 v0 5 12 fun a4 => ax_gr T2 v0 5 12 fun a5 => axB (F_X9_at N a5 v2 T2) fun x7 T6 => axBV (F_X9_put N a4 v1 x7 T6) fun T8 => ax_gr T8 v0 5 12 fun a10 => axBV (F_X9_put N a10 v2 x3 T8) fun T11 => ax_rz 1 (some (1, T11)))

def F_X5_takeDown (N : Nat) (v0 : Nat) (S : AxS) : Option (AxS) :=
  ax_pi S v0 5 8 0 fun T1 => ax_gi T1 v0 5 6 fun x2 => if x2 = 0 then (some T1) else (ax_gi T1 v0 5 7 fun x3 => ax_pi T1 v0 5 7 (x3 - 1) fun T4 => ax_gi T4 v0 5 7 fun x5 => if 0 < x5 then (some T4) else (ax_gi T4 v0 5 6 fun x6 => ax_pi T4 v0 5 8 x6 fun T7 => ax_pi T7 v0 5 6 0 fun T8 => ax_pi T8 v0 5 7 0 fun T9 => some T9))

def F_X5_turn_25 (N : Nat)  (v0 : Nat) (v2 : Nat) (v3 : Int32) (w0 : Int32) (w1 : Nat) (S : AxS) : Option (AxS) :=
  ax_pi S w1 5 3 w0 fun T1 => ax_pi T1 v0 5 5 0 fun T2 => ax_pi T2 v0 5 9 0 fun T3 => ax_pi T3 v0 5 4 0 fun T4 => ax_is T4 v0 5 <| axBV (F_X5_takeDown N v0 T4) fun T6 => ax_gi T6 v0 5 2 fun x8 => ax_ne 12 <| ax_gi T6 v0 5 1 fun x9 => ax_gr T6 v2 1 7 fun a10 => axB (F_X9_at N a10 (x8 - x8 / 12 * 12) T6) fun x12 T11 => axB (F_J9_min_7cf53 N 9999 (x9 + x12) T11) fun x14 T13 => ax_pi T13 v0 5 1 x14 fun T15 => if (x8 - x8 / 12 * 12) = 11 then (ax_gi T15 v0 5 0 fun x18 => ax_gi T15 v0 5 0 fun x19 => ax_ne 100 <| axB (F_J9_min_7cf53 N 99999 (x18 + ((x19 * v3) / 100)) T15) fun x21 T20 => ax_pi T20 v0 5 0 x21 fun T22 => ax_gi T22 v0 5 2 fun x23 => ax_pi T22 v0 5 2 (x23 + 1) fun T24 => some T24) else (ax_gi T15 v0 5 2 fun x16 => ax_pi T15 v0 5 2 (x16 + 1) fun T17 => some T17)
def F_X5_turn (N : Nat) (v0 : Nat) (v1 : Int32) (v2 : Nat) (v3 : Int32) (S : AxS) : Option (AxS) :=
  ax_gi S v0 5 10 fun x1 => ax_pi S v0 5 10 (x1 + v1) fun T2 => if v1 = 0 then (ax_gi T2 v0 5 3 fun x3 => F_X5_turn_25 N  v0 v2 v3 (x3 + 1) v0 T2) else (F_X5_turn_25 N  v0 v2 v3 0 v0 T2)

def F_X6_stepKind (N : Nat) (v0 : Nat) (S : AxS) : Option (Int32 × AxS) :=
  ax_is S v0 7 <| axB (F_X7_isWord N v0 (axTx S 18) S) fun x3 T2 => if x3 = 0 then (ax_is T2 v0 7 <| axB (F_X7_isWord N v0 (axTx T2 19) T2) fun x6 T5 => if x6 = 0 then (ax_is T5 v0 7 <| axB (F_X7_isWord N v0 (axTx T5 20) T5) fun x9 T8 => if x9 = 0 then (ax_is T8 v0 7 <| axB (F_X7_isWord N v0 (axTx T8 21) T8) fun x12 T11 => if x12 = 0 then (ax_is T11 v0 7 <| axB (F_X7_isWord N v0 (axTx T11 22) T11) fun x15 T14 => if x15 = 0 then (ax_is T14 v0 7 <| axB (F_X7_isWord N v0 (axTx T14 23) T14) fun x18 T17 => if x18 = 0 then (ax_is T17 v0 7 <| axB (F_X7_isWord N v0 (axTx T17 24) T17) fun x21 T20 => if x21 = 0 then (some (0, T20)) else (some (7, T20))) else (some (6, T17))) else (some (5, T14))) else (some (4, T11))) else (some (3, T8))) else (some (2, T5))) else (some (1, T2))

def F_X6_readNumbers_44 (N : Nat)  (v0 : Nat) (v1 : Nat) (v3 : Int32) (S : AxS) : Option (AxS) :=
  ax_gr S v0 6 1 fun a1 => ax_is S v1 7 <| axB (F_X7_number N v1 1 999 S) fun x4 T3 => axBV (F_X9_put N a1 v3 x4 T3) fun T5 => some T5
def F_X6_readNumbers (N : Nat) (v0 : Nat) (v1 : Nat) (v2 : Nat) (v3 : Int32) (v4 : Int32) (S : AxS) : Option (AxS) :=
  if v4 = 1 then (F_X6_readNumbers_44 N  v0 v1 v3 S) else (if v4 = 2 then (ax_gr S v0 6 1 fun a2 => ax_gi S v2 1 3 fun x3 => ax_is S v1 7 <| axB (F_X7_number N v1 0 (x3 - 1) S) fun x6 T5 => axBV (F_X9_put N a2 v3 x6 T5) fun T7 => some T7) else (if v4 = 3 then (some S) else (if v4 = 4 then (F_X6_readNumbers_44 N  v0 v1 v3 S) else (if v4 = 5 then (ax_gr S v0 6 1 fun a12 => ax_gi S v2 1 5 fun x13 => ax_is S v1 7 <| axB (F_X7_number N v1 0 (x13 - 1) S) fun x16 T15 => axBV (F_X9_put N a12 v3 x16 T15) fun T17 => ax_gr T17 v0 6 2 fun a19 => ax_gi T17 v2 1 5 fun x20 => ax_is T17 v1 7 <| axB (F_X7_number N v1 0 (x20 - 1) T17) fun x23 T22 => axBV (F_X9_put N a19 v3 x23 T22) fun T24 => some T24) else (if v4 = 6 then (some S) else (if v4 = 7 then (ax_gr S v0 6 1 fun a28 => ax_is S v1 7 <| axB (F_X7_number N v1 0 30 S) fun x31 T30 => axBV (F_X9_put N a28 v3 x31 T30) fun T32 => some T32) else (some S)))))))

def F_X6_readStep_137 (N : Nat) (kr : Nat → Nat → Nat → Int32 → AxS → Option (Int32 × AxS))  (v1 : Nat) (S : AxS) : Option (Int32 × AxS) :=
  ax_is S v1 7 <| axB (F_X7_takes N v1 59 S) fun x3 T2 => ax_rz x3 (some (x3, T2))
def F_X6_readStep_48 (N : Nat) (kr : Nat → Nat → Nat → Int32 → AxS → Option (Int32 × AxS))  (v0 : Nat) (v1 : Nat) (v2 : Nat) (v3 : Int32) (v4 : Int32) (S : AxS) : Option (Int32 × AxS) :=
  ax_gi S v0 6 3 fun x1 => ax_gi S v0 6 3 fun x2 => ax_pi S v0 6 3 (x2 + 1) fun T3 => ax_gr T3 v0 6 0 fun a4 => axBV (F_X9_put N a4 x1 v4 T3) fun T5 => ax_is T5 v0 6 <| axBV (F_X6_readNumbers N v0 v1 v2 x1 v4 T5) fun T8 => if v4 = 7 then (ax_is T8 v1 7 <| axB (F_X7_takes N v1 91 T8) fun x12 T11 => if x12 = 0 then (ax_rz 0 (some (0, T11))) else (ax_is T11 v0 6 <| axB (kr v0 v1 v2 (v3 + 1) T11) fun x15 T14 => if x15 = 0 then (ax_rz 0 (some (0, T14))) else (ax_is T14 v1 7 <| axB (F_X7_takes N v1 93 T14) fun x18 T17 => if x18 = 0 then (ax_rz 0 (some (0, T17))) else (ax_gr T17 v0 6 2 fun a19 => ax_gi T17 v0 6 3 fun x20 => axBV (F_X9_put N a19 x1 x20 T17) fun T21 => F_X6_readStep_137 N kr  v1 T21)))) else (F_X6_readStep_137 N kr  v1 T8)
def F_X6_readStep (N : Nat) (kr : Nat → Nat → Nat → Int32 → AxS → Option (Int32 × AxS)) (v0 : Nat) (v1 : Nat) (v2 : Nat) (v3 : Int32) (S : AxS) : Option (Int32 × AxS) :=
  ax_is S v1 7 <| axBV (F_X7_word N v1 S) fun T2 => axB (F_X6_stepKind N v1 T2) fun x5 T4 => if x5 = 0 then (ax_gi T4 v1 7 6 fun x10 => ax_is T4 v1 7 <| axB (F_X7_fails N v1 1 x10 T4) fun x13 T12 => ax_rz x13 (some (x13, T12))) else (if x5 = 7 then (if v3 < 6 then (F_X6_readStep_48 N kr  v0 v1 v2 v3 x5 T4) else (ax_gi T4 v1 7 6 fun x6 => ax_is T4 v1 7 <| axB (F_X7_fails N v1 3 x6 T4) fun x9 T8 => ax_rz x9 (some (x9, T8)))) else (F_X6_readStep_48 N kr  v0 v1 v2 v3 x5 T4))

def F_X6_readRow_50 (N : Nat) (kr : Nat → Nat → Nat → Int32 → AxS → Option (Int32 × AxS))  (v1 : Nat) (S : AxS) : Option (Int32 × AxS) :=
  ax_gi S v1 7 4 fun x1 => if x1 = 0 then (ax_rz 1 (some (1, S))) else (ax_rz 0 (some (0, S)))
def F_X6_readRow_15b (N : Nat) (kr : Nat → Nat → Nat → Int32 → AxS → Option (Int32 × AxS)) (K15 : Nat → Nat → Nat → Int32 → Int32 → Int32 → AxS → Option (Int32 × AxS)) (v0 : Nat) (v1 : Nat) (v2 : Nat) (v3 : Int32) (v4 : Int32) (v5 : Int32) (S : AxS) : Option (Int32 × AxS) :=
  if 150 ≤ v5 then (F_X6_readRow_50 N kr  v1 S) else (ax_is S v1 7 <| axB (F_X7_sign N v1 S) fun x3 T2 => if x3 = v4 then (F_X6_readRow_50 N kr  v1 T2) else (ax_is T2 v0 6 <| axB (F_X6_readStep N kr v0 v1 v2 v3 T2) fun x6 T5 => if x6 = 0 then (ax_rz 0 (some (0, T5))) else (K15 v0 v1 v2 v3 v4 (v5 + 1) T5)))
def F_X6_readRow_15 (N : Nat) (kr : Nat → Nat → Nat → Int32 → AxS → Option (Int32 × AxS))  : Nat → Nat → Nat → Nat → Int32 → Int32 → Int32 → AxS → Option (Int32 × AxS) := axIter (fun KK => F_X6_readRow_15b N kr KK) (fun _ _ _ _ _ _ _ => none)
def F_X6_readRow_10 (N : Nat) (kr : Nat → Nat → Nat → Int32 → AxS → Option (Int32 × AxS))  (v0 : Nat) (v1 : Nat) (v2 : Nat) (v3 : Int32) (w0 : Int32) (S : AxS) : Option (Int32 × AxS) :=
  F_X6_readRow_15 N kr  N v0 v1 v2 v3 w0 0 S
def F_X6_readRow (N : Nat) (kr : Nat → Nat → Nat → Int32 → AxS → Option (Int32 × AxS)) (v0 : Nat) (v1 : Nat) (v2 : Nat) (v3 : Int32) (S : AxS) : Option (Int32 × AxS) :=
  if v3 ≤ 0 then (F_X6_readRow_10 N kr  v0 v1 v2 v3 ((-1)) S) else (F_X6_readRow_10 N kr  v0 v1 v2 v3 93 S)
def GG_X6_readRow (N : Nat) : Nat → Nat → Nat → Nat → Int32 → AxS → Option (Int32 × AxS) := axIter (fun kr => F_X6_readRow N kr) (fun _ _ _ _ _ => none)
def G_X6_readRow (N : Nat) : Nat → Nat → Nat → Int32 → AxS → Option (Int32 × AxS) := GG_X6_readRow N 9

def F_X6_readFrom (N : Nat) (v0 : Nat) (v1 : Nat) (v2 : Nat) (S : AxS) : Option (Int32 × AxS) :=
  ax_pi S v0 6 3 0 fun T1 => ax_is T1 v0 6 <| axB (G_X6_readRow N v0 v1 v2 0 T1) fun x4 T3 => ax_rz x4 (some (x4, T3))

def F_X6_behind (N : Nat) (v0 : Nat) (v1 : Int32) (S : AxS) : Option (Int32 × AxS) :=
  ax_gr S v0 6 0 fun a1 => axB (F_X9_at N a1 v1 S) fun x3 T2 => if x3 = 7 then (ax_gr T2 v0 6 2 fun a4 => axB (F_X9_at N a4 v1 T2) fun x6 T5 => some (x6, T5)) else (some (v1 + 1, T2))

def F_X7_append_3b (N : Nat) (K3 : Nat → Int32 → Int32 → AxS → Option (AxS)) (v0 : Nat) (v1 : Int32) (v2 : Int32) (S : AxS) : Option (AxS) :=
  if v2 < 0 then (some S) else (ax_gr S v0 7 0 fun a1 => ax_gi S v0 7 1 fun x2 => axBV (F_X9_put N a1 x2 ((axUshr v1 v2) &&& 255) S) fun T3 => ax_gi T3 v0 7 1 fun x5 => ax_pi T3 v0 7 1 (x5 + 1) fun T6 => K3 v0 v1 (v2 + (-8)) T6)
def F_X7_append_3 (N : Nat)  : Nat → Nat → Int32 → Int32 → AxS → Option (AxS) := axIter (fun KK => F_X7_append_3b N KK) (fun _ _ _ _ => none)
def F_X7_append (N : Nat) (v0 : Nat) (v1 : Int32) (S : AxS) : Option (AxS) :=
  F_X7_append_3 N  N v0 v1 24 S

def F_X7_open (N : Nat) (v0 : Nat) (v1 : Int32) (S : AxS) : Option (AxS) :=
  ax_pi S v0 7 2 v1 fun T1 => ax_pi T1 v0 7 3 0 fun T2 => ax_pi T2 v0 7 4 0 fun T3 => ax_pi T3 v0 7 5 ((-1)) fun T4 => ax_pi T4 v0 7 1 0 fun T5 => some T5

def F_X8_push (N : Nat) (v0 : Nat) (v1 : Nat) (S : AxS) : Option (AxS) :=
  ax_gi S v0 8 1 fun x1 => if x1 < 0 then (some S) else (ax_gi S v0 8 1 fun x2 => ax_gr S v0 8 0 fun a3 => ax_len S a3 fun x4 => if x4 ≤ x2 then (some S) else (ax_gr S v0 8 0 fun a5 => ax_gi S v0 8 1 fun x6 => ax_ldr S a5 x6 fun a7 => ax_is S a7 5 <| axBV (F_X5_take N a7 v1 S) fun T9 => ax_gi T9 v0 8 1 fun x11 => ax_pi T9 v0 8 1 (x11 + 1) fun T12 => some T12))

def F_X8_pop (N : Nat) (v0 : Nat) (v1 : Nat) (S : AxS) : Option (AxS) :=
  ax_gi S v0 8 1 fun x1 => if x1 ≤ 0 then (some S) else (ax_gi S v0 8 1 fun x2 => ax_gr S v0 8 0 fun a3 => ax_len S a3 fun x4 => if x4 < x2 then (some S) else (ax_gi S v0 8 1 fun x5 => ax_pi S v0 8 1 (x5 - 1) fun T6 => ax_gr T6 v0 8 0 fun a7 => ax_gi T6 v0 8 1 fun x8 => ax_ldr T6 a7 x8 fun a9 => ax_is T6 v1 5 <| axBV (F_X5_take N v1 a9 T6) fun T11 => some T11))

def F_X9_beginAnew (N : Nat) (v0 : Nat) (S : AxS) : Option (AxS) :=
  ax_gr S v0 9 3 fun a1 => ax_is S a1 4 <| axBV (F_X4_tenth N a1 S) fun T3 => ax_gr T3 v0 9 5 fun a5 => ax_is T3 a5 0 <| axBV (F_X0_clear N a5 T3) fun T7 => ax_gr T7 v0 9 16 fun a9 => ax_pi T7 a9 2 0 0 fun T10 => ax_gr T10 v0 9 8 fun a11 => ax_gr T10 v0 9 1 fun a12 => ax_is T10 a11 5 <| axBV (F_X5_begin N a11 a12 T10) fun T14 => ax_gr T14 v0 9 10 fun a16 => ax_pi T14 a16 8 1 0 fun T17 => ax_pi T17 v0 9 12 0 fun T18 => ax_pi T18 v0 9 13 0 fun T19 => some T19

def F_X9_feed (N : Nat) (v0 : Nat) (v1 : Int32) (v2 : Int32) (v3 : Int32) (v4 : Int32) (v5 : Int32) (S : AxS) : Option (Int32 × AxS) :=
  ax_gr S v0 9 0 fun a1 => ax_gi S a1 7 1 fun x2 => if (x2 + 20) ≤ 600 then (ax_gr S v0 9 0 fun a3 => ax_is S a3 7 <| axBV (F_X7_append N a3 v1 S) fun T5 => ax_gr T5 v0 9 0 fun a7 => ax_is T5 a7 7 <| axBV (F_X7_append N a7 v2 T5) fun T9 => ax_gr T9 v0 9 0 fun a11 => ax_is T9 a11 7 <| axBV (F_X7_append N a11 v3 T9) fun T13 => ax_gr T13 v0 9 0 fun a15 => ax_is T13 a15 7 <| axBV (F_X7_append N a15 v4 T13) fun T17 => ax_gr T17 v0 9 0 fun a19 => ax_is T17 a19 7 <| axBV (F_X7_append N a19 v5 T17) fun T21 => ax_gr T21 v0 9 0 fun a23 => ax_gi T21 a23 7 1 fun x24 => some (x24, T21)) else (some ((-1), S))

def F_X9_needArgument (N : Nat) (v0 : Nat) (v1 : Int32) (S : AxS) : Option (AxT Unit) :=
  if v1 = 0 then (ax_gi S v0 9 15 fun x1 => ax_pi S v0 9 15 (x1 + 1) fun T2 => some (.inr "java/lang/IllegalArgumentException", axS0 T2)) else (some (.inl (), S))

def F_X9_abbey_21 (N : Nat)  (v0 : Nat) (v1 : Int32) (w0 : Int32) (w1 : Nat) (S : AxS) : Option (AxT Int32) :=
  ax_is S w1 9 <| axBT (F_X9_needArgument N w1 w0 S) fun _ T2 => ax_gr T2 v0 9 0 fun a4 => ax_is T2 a4 7 <| axBV (F_X7_open N a4 v1 T2) fun T6 => ax_gr T6 v0 9 2 fun a8 => ax_gr T6 v0 9 0 fun a9 => ax_is T6 a8 1 <| axB (F_X1_readFrom N a8 a9 T6) fun x12 T11 => if x12 = 0 then (ax_gr T11 v0 9 0 fun a22 => ax_gi T11 a22 7 4 fun x23 => some (.inl (x23 - 10), T11)) else (ax_gr T11 v0 9 2 fun a13 => ax_gr T11 v0 9 1 fun a14 => ax_pr T11 v0 9 2 a14 fun T15 => ax_pr T15 v0 9 1 a13 fun T16 => ax_is T16 v0 9 <| axBV (F_X9_beginAnew N v0 T16) fun T18 => ax_gr T18 v0 9 1 fun a20 => ax_gi T18 a20 1 5 fun x21 => some (.inl x21, T18))
def F_X9_abbey_20 (N : Nat)  (v0 : Nat) (v1 : Int32) (w0 : Nat) (S : AxS) : Option (AxT Int32) :=
  F_X9_abbey_21 N  v0 v1 0 w0 S
def F_X9_abbey (N : Nat) (v0 : Nat) (v1 : Int32) (S : AxS) : Option (AxT Int32) :=
  if v1 < 0 then (F_X9_abbey_20 N  v0 v1 v0 S) else (ax_gr S v0 9 0 fun a1 => ax_gi S a1 7 1 fun x2 => if x2 < v1 then (F_X9_abbey_20 N  v0 v1 v0 S) else (F_X9_abbey_21 N  v0 v1 1 v0 S))

def F_X9_law_28 (N : Nat)  (v0 : Nat) (v1 : Int32) (w0 : Int32) (w1 : Nat) (S : AxS) : Option (AxT Int32) :=
  ax_is S w1 9 <| axBT (F_X9_needArgument N w1 w0 S) fun _ T2 => ax_gr T2 v0 9 0 fun a4 => ax_is T2 a4 7 <| axBV (F_X7_open N a4 v1 T2) fun T6 => ax_gr T6 v0 9 4 fun a8 => ax_gr T6 v0 9 0 fun a9 => ax_is T6 a8 4 <| axB (F_X4_readFrom N a8 a9 T6) fun x12 T11 => if x12 = 0 then (ax_gr T11 v0 9 0 fun a19 => ax_gi T11 a19 7 4 fun x20 => some (.inl (x20 - 10), T11)) else (ax_gr T11 v0 9 4 fun a13 => ax_gr T11 v0 9 3 fun a14 => ax_pr T11 v0 9 4 a14 fun T15 => ax_pr T15 v0 9 3 a13 fun T16 => ax_gr T16 v0 9 16 fun a17 => ax_pi T16 a17 2 0 0 fun T18 => some (.inl 1, T18))
def F_X9_law_27 (N : Nat)  (v0 : Nat) (v1 : Int32) (w0 : Nat) (S : AxS) : Option (AxT Int32) :=
  F_X9_law_28 N  v0 v1 0 w0 S
def F_X9_law (N : Nat) (v0 : Nat) (v1 : Int32) (S : AxS) : Option (AxT Int32) :=
  if v1 < 0 then (F_X9_law_27 N  v0 v1 v0 S) else (if 150 < v1 then (F_X9_law_27 N  v0 v1 v0 S) else (ax_gr S v0 9 0 fun a1 => ax_gi S a1 7 1 fun x2 => if x2 < v1 then (F_X9_law_27 N  v0 v1 v0 S) else (F_X9_law_28 N  v0 v1 1 v0 S)))

def F_X9_strokesOf (N : Nat) (v0 : Nat) (v1 : Nat) (v2 : Int32) (S : AxS) : Option (Int32 × AxS) :=
  ax_gi S v1 5 0 fun x1 => ax_gi S v1 5 6 fun x2 => axB (F_J9_max_7cf53 N 0 (x1 - x2) S) fun x4 T3 => ax_gr T3 v0 9 3 fun a5 => ax_gi T3 v1 5 4 fun x6 => ax_gi T3 v1 5 2 fun x7 => ax_gi T3 v1 5 3 fun x8 => ax_gi T3 v1 5 5 fun x9 => ax_gi T3 v1 5 1 fun x10 => ax_is T3 a5 4 <| axB (F_X4_tolls N a5 x4 x6 x7 x8 x9 v2 x10 T3) fun x13 T12 => ax_gi T12 v1 5 8 fun x14 => axB (F_J9_min_7cf53 N 999 (x13 + x14) T12) fun x16 T15 => some (x16, T15)

def F_X9_wakes_34 (N : Nat)  (v0 : Nat) (v2 : Int32) (w0 : Int32) (S : AxS) : Option (Int32 × AxS) :=
  ax_gr S v0 9 1 fun a1 => ax_gr S a1 1 10 fun a2 => axB (F_X9_at N a2 v2 S) fun x4 T3 => if w0 ≤ x4 then (ax_rz 0 (some (0, T3))) else (ax_rz 1 (some (1, T3)))
def F_X9_wakes (N : Nat) (v0 : Nat) (v1 : Nat) (v2 : Int32) (v3 : Int32) (S : AxS) : Option (Int32 × AxS) :=
  ax_gr S v0 9 1 fun a1 => ax_gr S v1 5 12 fun a2 => axB (F_X9_at N a2 v2 S) fun x4 T3 => ax_is T3 a1 1 <| axB (F_X1_loud N a1 x4 v3 T3) fun x7 T6 => ax_gi T6 v1 5 5 fun x8 => if x8 = 0 then (F_X9_wakes_34 N  v0 v2 x7 T6) else (ax_ne 2 <| F_X9_wakes_34 N  v0 v2 (x7 / 2) T6)

def F_X9_passNight_63 (N : Nat) (K10 : Nat → Nat → Int32 → Int32 → AxS → Option (Int32 × AxS)) (v0 : Nat) (v1 : Nat) (v3 : Int32) (v4 : Int32) (S : AxS) : Option (Int32 × AxS) :=
  K10 v0 v1 v3 (v4 + 1) S
def F_X9_passNight_10b (N : Nat) (K10 : Nat → Nat → Int32 → Int32 → AxS → Option (Int32 × AxS)) (v0 : Nat) (v1 : Nat) (v3 : Int32) (v4 : Int32) (S : AxS) : Option (Int32 × AxS) :=
  ax_gr S v0 9 1 fun a1 => ax_gi S a1 1 5 fun x2 => if x2 ≤ v4 then (ax_gr S v0 9 1 fun a3 => ax_gr S v0 9 1 fun a4 => ax_gi S a4 1 1 fun x5 => ax_is S v1 5 <| axBV (F_X5_turn N v1 v3 a3 x5 S) fun T7 => some (v3, T7)) else (ax_is S v0 9 <| axB (F_X9_wakes N v0 v1 v4 v3 S) fun x11 T10 => if x11 = 0 then (F_X9_passNight_63 N K10 v0 v1 v3 v4 T10) else (ax_gi T10 v1 5 11 fun x12 => ax_pi T10 v1 5 11 (x12 + 1) fun T13 => ax_gr T13 v1 5 13 fun a14 => ax_gr T13 v1 5 13 fun a15 => axB (F_X9_at N a15 v4 T13) fun x17 T16 => axBV (F_X9_put N a14 v4 (x17 + 1) T16) fun T18 => F_X9_passNight_63 N K10 v0 v1 v3 v4 T18))
def F_X9_passNight_10 (N : Nat)  : Nat → Nat → Nat → Int32 → Int32 → AxS → Option (Int32 × AxS) := axIter (fun KK => F_X9_passNight_10b N KK) (fun _ _ _ _ _ => none)
def F_X9_passNight (N : Nat) (v0 : Nat) (v1 : Nat) (v2 : Int32) (S : AxS) : Option (Int32 × AxS) :=
  ax_is S v0 9 <| axB (F_X9_strokesOf N v0 v1 v2 S) fun x3 T2 => F_X9_passNight_10 N  N v0 v1 x3 0 T2

def F_X9_doStep (N : Nat) (v0 : Nat) (v1 : Int32) (v2 : Int32) (v3 : Int32) (S : AxS) : Option (Int32 × AxS) :=
  if v1 = 1 then (ax_gr S v0 9 8 fun a1 => ax_is S a1 5 <| axB (F_X5_pays N a1 v2 S) fun x4 T3 => ax_rz x4 (some (x4, T3))) else (if v1 = 2 then (ax_gr S v0 9 8 fun a6 => ax_gr S v0 9 1 fun a7 => ax_gr S a7 1 8 fun a8 => axB (F_X9_at N a8 v2 S) fun x10 T9 => ax_is T9 a6 5 <| axB (F_X5_gives N a6 v2 x10 T9) fun x13 T12 => ax_rz x13 (some (x13, T12))) else (if v1 = 3 then (ax_gr S v0 9 8 fun a15 => ax_is S a15 5 <| axB (F_X5_waxes N a15 S) fun x18 T17 => ax_rz x18 (some (x18, T17))) else (if v1 = 4 then (ax_gr S v0 9 8 fun a20 => ax_is S a20 5 <| axB (F_X5_hangUp N a20 v2 S) fun x23 T22 => ax_rz x23 (some (x23, T22))) else (if v1 = 5 then (ax_gr S v0 9 8 fun a25 => ax_is S a25 5 <| axB (F_X5_swaps N a25 v2 v3 S) fun x28 T27 => ax_rz x28 (some (x28, T27))) else (if v1 = 6 then (ax_gr S v0 9 8 fun a30 => ax_gi S a30 5 2 fun x31 => if x31 < 999 then (ax_gr S v0 9 8 fun a32 => ax_is S v0 9 <| axB (F_X9_passNight N v0 a32 0 S) fun x35 T34 => ax_rz 1 (some (1, T34))) else (ax_rz 0 (some (0, S)))) else (ax_rz 0 (some (0, S))))))))

def F_X9_runSteps_194 (N : Nat) (kr : Nat → Int32 → Int32 → Int32 → AxS → Option (AxS)) (K10 : Nat → Int32 → Int32 → Int32 → AxS → Option (AxS)) (v0 : Nat) (v2 : Int32) (v3 : Int32) (v4 : Int32) (S : AxS) : Option (AxS) :=
  ax_gr S v0 9 7 fun a1 => ax_is S a1 6 <| axB (F_X6_behind N a1 v4 S) fun x4 T3 => K10 v0 v2 v3 x4 T3
def F_X9_runSteps_122 (N : Nat) (kr : Nat → Int32 → Int32 → Int32 → AxS → Option (AxS)) (K10 : Nat → Int32 → Int32 → Int32 → AxS → Option (AxS)) (v0 : Nat) (v2 : Int32) (v3 : Int32) (v4 : Int32) (S : AxS) : Option (AxS) :=
  F_X9_runSteps_194 N kr K10 v0 v2 v3 v4 S
def F_X9_runSteps_76b (N : Nat) (kr : Nat → Int32 → Int32 → Int32 → AxS → Option (AxS)) (K10 : Nat → Int32 → Int32 → Int32 → AxS → Option (AxS)) (K76 : Nat → Int32 → Int32 → Int32 → Int32 → Int32 → AxS → Option (AxS)) (v0 : Nat) (v2 : Int32) (v3 : Int32) (v4 : Int32) (v5 : Int32) (v6 : Int32) (S : AxS) : Option (AxS) :=
  if v5 ≤ v6 then (F_X9_runSteps_122 N kr K10 v0 v2 v3 v4 S) else (ax_gr S v0 9 7 fun a1 => ax_gi S a1 6 4 fun x2 => if 200 ≤ x2 then (F_X9_runSteps_122 N kr K10 v0 v2 v3 v4 S) else (ax_gr S v0 9 7 fun a3 => ax_is S a3 6 <| axB (F_X6_behind N a3 v4 S) fun x6 T5 => ax_is T5 v0 9 <| axBV (kr v0 (v4 + 1) x6 (v3 + 1) T5) fun T8 => K76 v0 v2 v3 v4 v5 (v6 + 1) T8))
def F_X9_runSteps_76 (N : Nat) (kr : Nat → Int32 → Int32 → Int32 → AxS → Option (AxS)) (K10 : Nat → Int32 → Int32 → Int32 → AxS → Option (AxS)) : Nat → Nat → Int32 → Int32 → Int32 → Int32 → Int32 → AxS → Option (AxS) := axIter (fun KK => F_X9_runSteps_76b N kr K10 KK) (fun _ _ _ _ _ _ _ => none)
def F_X9_runSteps_10b (N : Nat) (kr : Nat → Int32 → Int32 → Int32 → AxS → Option (AxS)) (K10 : Nat → Int32 → Int32 → Int32 → AxS → Option (AxS)) (v0 : Nat) (v2 : Int32) (v3 : Int32) (v4 : Int32) (S : AxS) : Option (AxS) :=
  if v2 ≤ v4 then (some S) else (ax_gr S v0 9 7 fun a1 => ax_gi S a1 6 4 fun x2 => if 200 ≤ x2 then (some S) else (ax_gr S v0 9 7 fun a3 => ax_gi S a3 6 4 fun x4 => ax_pi S a3 6 4 (x4 + 1) fun T5 => ax_gr T5 v0 9 7 fun a6 => ax_gr T5 a6 6 0 fun a7 => axB (F_X9_at N a7 v4 T5) fun x9 T8 => if x9 = 7 then (ax_gr T8 v0 9 7 fun a30 => ax_gr T8 a30 6 1 fun a31 => axB (F_X9_at N a31 v4 T8) fun x33 T32 => F_X9_runSteps_76 N kr K10 N v0 v2 v3 v4 x33 0 T32) else (ax_gr T8 v0 9 7 fun a10 => ax_gr T8 a10 6 0 fun a11 => axB (F_X9_at N a11 v4 T8) fun x13 T12 => ax_gr T12 v0 9 7 fun a14 => ax_gr T12 a14 6 1 fun a15 => axB (F_X9_at N a15 v4 T12) fun x17 T16 => ax_gr T16 v0 9 7 fun a18 => ax_gr T16 a18 6 2 fun a19 => axB (F_X9_at N a19 v4 T16) fun x21 T20 => ax_is T20 v0 9 <| axB (F_X9_doStep N v0 x13 x17 x21 T20) fun x24 T23 => if x24 = 0 then (ax_gi T23 v0 9 13 fun x25 => ax_pi T23 v0 9 13 (x25 + 1) fun T26 => F_X9_runSteps_194 N kr K10 v0 v2 v3 v4 T26) else (ax_gr T23 v0 9 7 fun a27 => ax_gi T23 a27 6 5 fun x28 => ax_pi T23 a27 6 5 (x28 + 1) fun T29 => F_X9_runSteps_194 N kr K10 v0 v2 v3 v4 T29))))
def F_X9_runSteps_10 (N : Nat) (kr : Nat → Int32 → Int32 → Int32 → AxS → Option (AxS))  : Nat → Nat → Int32 → Int32 → Int32 → AxS → Option (AxS) := axIter (fun KK => F_X9_runSteps_10b N kr KK) (fun _ _ _ _ _ => none)
def F_X9_runSteps (N : Nat) (kr : Nat → Int32 → Int32 → Int32 → AxS → Option (AxS)) (v0 : Nat) (v1 : Int32) (v2 : Int32) (v3 : Int32) (S : AxS) : Option (AxS) :=
  if v3 ≤ 6 then (F_X9_runSteps_10 N kr  N v0 v2 v3 v1 S) else (some S)
def GG_X9_runSteps (N : Nat) : Nat → Nat → Int32 → Int32 → Int32 → AxS → Option (AxS) := axIter (fun kr => F_X9_runSteps N kr) (fun _ _ _ _ _ => none)
def G_X9_runSteps (N : Nat) : Nat → Int32 → Int32 → Int32 → AxS → Option (AxS) := GG_X9_runSteps N 10

def F_X9_work_28 (N : Nat)  (v0 : Nat) (v1 : Int32) (w0 : Int32) (w1 : Nat) (S : AxS) : Option (AxT Int32) :=
  ax_is S w1 9 <| axBT (F_X9_needArgument N w1 w0 S) fun _ T2 => ax_gr T2 v0 9 10 fun a4 => ax_gi T2 a4 8 1 fun x5 => if x5 < 16 then (ax_gr T2 v0 9 0 fun a6 => ax_is T2 a6 7 <| axBV (F_X7_open N a6 v1 T2) fun T8 => ax_gr T8 v0 9 7 fun a10 => ax_gr T8 v0 9 0 fun a11 => ax_gr T8 v0 9 1 fun a12 => ax_is T8 a10 6 <| axB (F_X6_readFrom N a10 a11 a12 T8) fun x15 T14 => if x15 = 0 then (ax_gr T14 v0 9 0 fun a33 => ax_gi T14 a33 7 4 fun x34 => some (.inl (x34 - 10), T14)) else (ax_gr T14 v0 9 10 fun a16 => ax_gr T14 v0 9 8 fun a17 => ax_is T14 a16 8 <| axBV (F_X8_push N a16 a17 T14) fun T19 => ax_gr T19 v0 9 7 fun a21 => ax_pi T19 a21 6 4 0 fun T22 => ax_gr T22 v0 9 7 fun a23 => ax_pi T22 a23 6 5 0 fun T24 => ax_pi T24 v0 9 13 0 fun T25 => ax_gr T25 v0 9 7 fun a26 => ax_gi T25 a26 6 3 fun x27 => ax_is T25 v0 9 <| axBV (G_X9_runSteps N v0 0 x27 0 T25) fun T29 => ax_gr T29 v0 9 7 fun a31 => ax_gi T29 a31 6 5 fun x32 => some (.inl x32, T29))) else (ax_gr T2 v0 9 0 fun a35 => ax_is T2 a35 7 <| axBV (F_X7_open N a35 0 T2) fun T37 => some (.inl ((-20)), T37))
def F_X9_work_27 (N : Nat)  (v0 : Nat) (v1 : Int32) (w0 : Nat) (S : AxS) : Option (AxT Int32) :=
  F_X9_work_28 N  v0 v1 0 w0 S
def F_X9_work (N : Nat) (v0 : Nat) (v1 : Int32) (S : AxS) : Option (AxT Int32) :=
  if v1 < 0 then (F_X9_work_27 N  v0 v1 v0 S) else (if 150 < v1 then (F_X9_work_27 N  v0 v1 v0 S) else (ax_gr S v0 9 0 fun a1 => ax_gi S a1 7 1 fun x2 => if x2 < v1 then (F_X9_work_27 N  v0 v1 v0 S) else (F_X9_work_28 N  v0 v1 1 v0 S)))

def F_X9_book_27 (N : Nat)  (v0 : Nat) (v1 : Int32) (w0 : Int32) (w1 : Nat) (S : AxS) : Option (AxT Int32) :=
  ax_is S w1 9 <| axBT (F_X9_needArgument N w1 w0 S) fun _ T2 => ax_gr T2 v0 9 0 fun a4 => ax_is T2 a4 7 <| axBV (F_X7_open N a4 v1 T2) fun T6 => ax_gr T6 v0 9 6 fun a8 => ax_gr T6 v0 9 0 fun a9 => ax_is T6 a8 0 <| axB (F_X0_readFrom N a8 a9 T6) fun x12 T11 => if x12 = 0 then (ax_gr T11 v0 9 0 fun a21 => ax_gi T11 a21 7 4 fun x22 => some (.inl (x22 - 10), T11)) else (ax_gr T11 v0 9 6 fun a13 => ax_gr T11 v0 9 5 fun a14 => ax_pr T11 v0 9 6 a14 fun T15 => ax_pr T15 v0 9 5 a13 fun T16 => ax_gr T16 v0 9 16 fun a17 => ax_pi T16 a17 2 0 0 fun T18 => ax_gr T18 v0 9 5 fun a19 => ax_gi T18 a19 0 1 fun x20 => some (.inl x20, T18))
def F_X9_book_26 (N : Nat)  (v0 : Nat) (v1 : Int32) (w0 : Nat) (S : AxS) : Option (AxT Int32) :=
  F_X9_book_27 N  v0 v1 0 w0 S
def F_X9_book (N : Nat) (v0 : Nat) (v1 : Int32) (S : AxS) : Option (AxT Int32) :=
  if v1 < 0 then (F_X9_book_26 N  v0 v1 v0 S) else (if 100 < v1 then (F_X9_book_26 N  v0 v1 v0 S) else (ax_gr S v0 9 0 fun a1 => ax_gi S a1 7 1 fun x2 => if x2 < v1 then (F_X9_book_26 N  v0 v1 v0 S) else (F_X9_book_27 N  v0 v1 1 v0 S)))

def F_X9_fault (N : Nat) (v0 : Nat) (S : AxS) : Option (Int32 × AxS) :=
  ax_gr S v0 9 0 fun a1 => ax_gi S a1 7 5 fun x2 => some (x2, S)

def F_X9_undo (N : Nat) (v0 : Nat) (S : AxS) : Option (Int32 × AxS) :=
  ax_gr S v0 9 10 fun a1 => ax_gi S a1 8 1 fun x2 => if 0 < x2 then (ax_gr S v0 9 10 fun a3 => ax_gr S v0 9 8 fun a4 => ax_is S a3 8 <| axBV (F_X8_pop N a3 a4 S) fun T6 => ax_pi T6 v0 9 13 0 fun T8 => ax_gr T8 v0 9 10 fun a9 => ax_gi T8 a9 8 1 fun x10 => some (x10, T8)) else (some ((-1), S))

def F_X9_told_16 (N : Nat)  (v0 : Nat) (v1 : Int32) (w0 : Int32) (w1 : Nat) (S : AxS) : Option (AxT Int32) :=
  ax_is S w1 9 <| axBT (F_X9_needArgument N w1 w0 S) fun _ T2 => if v1 = 0 then (ax_gr T2 v0 9 8 fun a4 => ax_gi T2 a4 5 0 fun x5 => some (.inl x5, T2)) else (if v1 = 1 then (ax_gr T2 v0 9 8 fun a7 => ax_gi T2 a7 5 1 fun x8 => some (.inl x8, T2)) else (if v1 = 2 then (ax_gr T2 v0 9 8 fun a10 => ax_gi T2 a10 5 2 fun x11 => some (.inl x11, T2)) else (if v1 = 3 then (ax_gr T2 v0 9 8 fun a13 => ax_gi T2 a13 5 3 fun x14 => some (.inl x14, T2)) else (if v1 = 4 then (ax_gr T2 v0 9 8 fun a16 => ax_gi T2 a16 5 4 fun x17 => some (.inl x17, T2)) else (if v1 = 5 then (ax_gr T2 v0 9 8 fun a19 => ax_gi T2 a19 5 5 fun x20 => some (.inl x20, T2)) else (if v1 = 6 then (ax_gr T2 v0 9 8 fun a22 => ax_gi T2 a22 5 6 fun x23 => some (.inl x23, T2)) else (if v1 = 7 then (ax_gr T2 v0 9 8 fun a25 => ax_gi T2 a25 5 7 fun x26 => some (.inl x26, T2)) else (if v1 = 8 then (ax_gr T2 v0 9 8 fun a28 => ax_gi T2 a28 5 10 fun x29 => some (.inl x29, T2)) else (if v1 = 9 then (ax_gr T2 v0 9 8 fun a31 => ax_gi T2 a31 5 11 fun x32 => some (.inl x32, T2)) else (if v1 = 10 then (ax_gr T2 v0 9 5 fun a34 => ax_gi T2 a34 0 1 fun x35 => some (.inl x35, T2)) else (if v1 = 11 then (ax_gi T2 v0 9 13 fun x37 => some (.inl x37, T2)) else (ax_gr T2 v0 9 8 fun a39 => ax_gi T2 a39 5 8 fun x40 => some (.inl x40, T2)))))))))))))
def F_X9_told_15 (N : Nat)  (v0 : Nat) (v1 : Int32) (w0 : Nat) (S : AxS) : Option (AxT Int32) :=
  F_X9_told_16 N  v0 v1 0 w0 S
def F_X9_told (N : Nat) (v0 : Nat) (v1 : Int32) (S : AxS) : Option (AxT Int32) :=
  if v1 < 0 then (F_X9_told_15 N  v0 v1 v0 S) else (if 12 < v1 then (F_X9_told_15 N  v0 v1 v0 S) else (F_X9_told_16 N  v0 v1 1 v0 S))

def F_X9_many_15 (N : Nat)  (v0 : Nat) (v1 : Int32) (w0 : Int32) (w1 : Nat) (S : AxS) : Option (AxT Int32) :=
  ax_is S w1 9 <| axBT (F_X9_needArgument N w1 w0 S) fun _ T2 => if v1 = 0 then (ax_gr T2 v0 9 1 fun a4 => ax_gi T2 a4 1 3 fun x5 => some (.inl x5, T2)) else (if v1 = 1 then (ax_gr T2 v0 9 1 fun a7 => ax_gi T2 a7 1 4 fun x8 => some (.inl x8, T2)) else (if v1 = 2 then (ax_gr T2 v0 9 1 fun a10 => ax_gi T2 a10 1 5 fun x11 => some (.inl x11, T2)) else (ax_gr T2 v0 9 1 fun a13 => ax_gi T2 a13 1 6 fun x14 => some (.inl x14, T2))))
def F_X9_many_14 (N : Nat)  (v0 : Nat) (v1 : Int32) (w0 : Nat) (S : AxS) : Option (AxT Int32) :=
  F_X9_many_15 N  v0 v1 0 w0 S
def F_X9_many (N : Nat) (v0 : Nat) (v1 : Int32) (S : AxS) : Option (AxT Int32) :=
  if v1 < 0 then (F_X9_many_14 N  v0 v1 v0 S) else (if 3 < v1 then (F_X9_many_14 N  v0 v1 v0 S) else (F_X9_many_15 N  v0 v1 1 v0 S))

def F_X9_needOne_9 (N : Nat)  (v0 : Nat) (S : AxS) : Option (AxT Unit) :=
  ax_gi S v0 9 14 fun x1 => ax_pi S v0 9 14 (x1 + 1) fun T2 => some (.inr "java/util/NoSuchElementException", axS0 T2)
def F_X9_needOne (N : Nat) (v0 : Nat) (v1 : Int32) (v2 : Int32) (S : AxS) : Option (AxT Unit) :=
  if v1 < 0 then (F_X9_needOne_9 N  v0 S) else (if v1 < v2 then (some (.inl (), S)) else (F_X9_needOne_9 N  v0 S))

def F_X9_monk_27 (N : Nat)  (v0 : Nat) (v1 : Int32) (v2 : Int32) (w0 : Int32) (w1 : Nat) (S : AxS) : Option (AxT Int32) :=
  ax_is S w1 9 <| axBT (F_X9_needArgument N w1 w0 S) fun _ T2 => if v2 = 0 then (ax_gr T2 v0 9 1 fun a4 => ax_gr T2 a4 1 10 fun a5 => axB (F_X9_at N a5 v1 T2) fun x7 T6 => some (.inl x7, T6)) else (if v2 = 1 then (ax_gr T2 v0 9 8 fun a9 => ax_gr T2 a9 5 12 fun a10 => axB (F_X9_at N a10 v1 T2) fun x12 T11 => some (.inl x12, T11)) else (if v2 = 2 then (ax_gr T2 v0 9 8 fun a14 => ax_gr T2 v0 9 8 fun a15 => ax_is T2 v0 9 <| axB (F_X9_strokesOf N v0 a15 0 T2) fun x18 T17 => ax_is T17 v0 9 <| axB (F_X9_wakes N v0 a14 v1 x18 T17) fun x21 T20 => if x21 = 0 then (some (.inl 0, T20)) else (some (.inl 1, T20))) else (ax_gr T2 v0 9 8 fun a23 => ax_gr T2 a23 5 13 fun a24 => axB (F_X9_at N a24 v1 T2) fun x26 T25 => some (.inl x26, T25))))
def F_X9_monk_26 (N : Nat)  (v0 : Nat) (v1 : Int32) (v2 : Int32) (w0 : Nat) (S : AxS) : Option (AxT Int32) :=
  F_X9_monk_27 N  v0 v1 v2 0 w0 S
def F_X9_monk (N : Nat) (v0 : Nat) (v1 : Int32) (v2 : Int32) (S : AxS) : Option (AxT Int32) :=
  ax_gr S v0 9 1 fun a1 => ax_gi S a1 1 5 fun x2 => ax_is S v0 9 <| axBT (F_X9_needOne N v0 v1 x2 S) fun _ T4 => if v2 < 0 then (F_X9_monk_26 N  v0 v1 v2 v0 T4) else (if 3 < v2 then (F_X9_monk_26 N  v0 v1 v2 v0 T4) else (F_X9_monk_27 N  v0 v1 v2 1 v0 T4))

def F_X9_village_27 (N : Nat)  (v0 : Nat) (v1 : Int32) (v2 : Int32) (w0 : Int32) (w1 : Nat) (S : AxS) : Option (AxT Int32) :=
  ax_is S w1 9 <| axBT (F_X9_needArgument N w1 w0 S) fun _ T2 => if v2 = 0 then (ax_gr T2 v0 9 1 fun a6 => ax_gr T2 a6 1 8 fun a7 => axB (F_X9_at N a7 v1 T2) fun x9 T8 => some (.inl x9, T8)) else (ax_gr T2 v0 9 8 fun a4 => ax_gi T2 a4 5 9 fun x5 => some (.inl ((x5 >>> (v1 &&& 31)) &&& 1), T2))
def F_X9_village_26 (N : Nat)  (v0 : Nat) (v1 : Int32) (v2 : Int32) (w0 : Nat) (S : AxS) : Option (AxT Int32) :=
  F_X9_village_27 N  v0 v1 v2 0 w0 S
def F_X9_village (N : Nat) (v0 : Nat) (v1 : Int32) (v2 : Int32) (S : AxS) : Option (AxT Int32) :=
  ax_gr S v0 9 1 fun a1 => ax_gi S a1 1 3 fun x2 => ax_is S v0 9 <| axBT (F_X9_needOne N v0 v1 x2 S) fun _ T4 => if v2 < 0 then (F_X9_village_26 N  v0 v1 v2 v0 T4) else (if 1 < v2 then (F_X9_village_26 N  v0 v1 v2 v0 T4) else (F_X9_village_27 N  v0 v1 v2 1 v0 T4))

def F_X9_cell (N : Nat) (v0 : Nat) (v1 : Int32) (S : AxS) : Option (AxT Int32) :=
  ax_gr S v0 9 1 fun a1 => ax_gi S a1 1 4 fun x2 => ax_is S v0 9 <| axBT (F_X9_needOne N v0 v1 x2 S) fun _ T4 => ax_gr T4 v0 9 1 fun a6 => ax_gr T4 a6 1 9 fun a7 => axB (F_X9_at N a7 v1 T4) fun x9 T8 => some (.inl x9, T8)

def F_X9_heir (N : Nat) (v0 : Nat) (v1 : Int32) (S : AxS) : Option (AxT Int32) :=
  ax_gr S v0 9 1 fun a1 => ax_gi S a1 1 6 fun x2 => ax_is S v0 9 <| axBT (F_X9_needOne N v0 v1 x2 S) fun _ T4 => ax_gr T4 v0 9 1 fun a6 => ax_gr T4 a6 1 11 fun a7 => axB (F_X9_at N a7 v1 T4) fun x9 T8 => some (.inl x9, T8)

def F_X9_strokes (N : Nat) (v0 : Nat) (S : AxS) : Option (Int32 × AxS) :=
  ax_gr S v0 9 8 fun a1 => ax_is S v0 9 <| axB (F_X9_strokesOf N v0 a1 0 S) fun x4 T3 => some (x4, T3)

def F_X9_would_113 (N : Nat)  (v0 : Nat) (v1 : Int32) (v2 : Int32) (v3 : Int32) (v4 : Int32) (v5 : Int32) (v6 : Int32) (v7 : Int32) (w0 : Int32) (w1 : Nat) (S : AxS) : Option (AxT Int32) :=
  ax_is S w1 9 <| axBT (F_X9_needArgument N w1 w0 S) fun _ T2 => ax_gr T2 v0 9 3 fun a4 => ax_is T2 a4 4 <| axB (F_X4_tolls N a4 v1 v2 v3 v4 v5 v6 v7 T2) fun x7 T6 => some (.inl x7, T6)
def F_X9_would_112 (N : Nat)  (v0 : Nat) (v1 : Int32) (v2 : Int32) (v3 : Int32) (v4 : Int32) (v5 : Int32) (v6 : Int32) (v7 : Int32) (w0 : Nat) (S : AxS) : Option (AxT Int32) :=
  F_X9_would_113 N  v0 v1 v2 v3 v4 v5 v6 v7 0 w0 S
def F_X9_would_91 (N : Nat)  (v0 : Nat) (v1 : Int32) (v2 : Int32) (v3 : Int32) (v4 : Int32) (v5 : Int32) (v6 : Int32) (v7 : Int32) (w0 : Int32) (w1 : Nat) (S : AxS) : Option (AxT Int32) :=
  ax_is S w1 9 <| axBT (F_X9_needArgument N w1 w0 S) fun _ T2 => if v7 < 0 then (F_X9_would_112 N  v0 v1 v2 v3 v4 v5 v6 v7 v0 T2) else (if 9999 < v7 then (F_X9_would_112 N  v0 v1 v2 v3 v4 v5 v6 v7 v0 T2) else (F_X9_would_113 N  v0 v1 v2 v3 v4 v5 v6 v7 1 v0 T2))
def F_X9_would_90 (N : Nat)  (v0 : Nat) (v1 : Int32) (v2 : Int32) (v3 : Int32) (v4 : Int32) (v5 : Int32) (v6 : Int32) (v7 : Int32) (w0 : Nat) (S : AxS) : Option (AxT Int32) :=
  F_X9_would_91 N  v0 v1 v2 v3 v4 v5 v6 v7 0 w0 S
def F_X9_would_60 (N : Nat)  (v0 : Nat) (v1 : Int32) (v2 : Int32) (v3 : Int32) (v4 : Int32) (v5 : Int32) (v6 : Int32) (v7 : Int32) (w0 : Int32) (w1 : Nat) (S : AxS) : Option (AxT Int32) :=
  ax_is S w1 9 <| axBT (F_X9_needArgument N w1 w0 S) fun _ T2 => if v5 < 0 then (F_X9_would_90 N  v0 v1 v2 v3 v4 v5 v6 v7 v0 T2) else (if 1 < v5 then (F_X9_would_90 N  v0 v1 v2 v3 v4 v5 v6 v7 v0 T2) else (if v6 < 0 then (F_X9_would_90 N  v0 v1 v2 v3 v4 v5 v6 v7 v0 T2) else (if 1 < v6 then (F_X9_would_90 N  v0 v1 v2 v3 v4 v5 v6 v7 v0 T2) else (F_X9_would_91 N  v0 v1 v2 v3 v4 v5 v6 v7 1 v0 T2))))
def F_X9_would_59 (N : Nat)  (v0 : Nat) (v1 : Int32) (v2 : Int32) (v3 : Int32) (v4 : Int32) (v5 : Int32) (v6 : Int32) (v7 : Int32) (w0 : Nat) (S : AxS) : Option (AxT Int32) :=
  F_X9_would_60 N  v0 v1 v2 v3 v4 v5 v6 v7 0 w0 S
def F_X9_would_27 (N : Nat)  (v0 : Nat) (v1 : Int32) (v2 : Int32) (v3 : Int32) (v4 : Int32) (v5 : Int32) (v6 : Int32) (v7 : Int32) (w0 : Int32) (w1 : Nat) (S : AxS) : Option (AxT Int32) :=
  ax_is S w1 9 <| axBT (F_X9_needArgument N w1 w0 S) fun _ T2 => if v3 < 0 then (F_X9_would_59 N  v0 v1 v2 v3 v4 v5 v6 v7 v0 T2) else (if 999 < v3 then (F_X9_would_59 N  v0 v1 v2 v3 v4 v5 v6 v7 v0 T2) else (if v4 < 0 then (F_X9_would_59 N  v0 v1 v2 v3 v4 v5 v6 v7 v0 T2) else (if 999 < v4 then (F_X9_would_59 N  v0 v1 v2 v3 v4 v5 v6 v7 v0 T2) else (F_X9_would_60 N  v0 v1 v2 v3 v4 v5 v6 v7 1 v0 T2))))
def F_X9_would_26 (N : Nat)  (v0 : Nat) (v1 : Int32) (v2 : Int32) (v3 : Int32) (v4 : Int32) (v5 : Int32) (v6 : Int32) (v7 : Int32) (w0 : Nat) (S : AxS) : Option (AxT Int32) :=
  F_X9_would_27 N  v0 v1 v2 v3 v4 v5 v6 v7 0 w0 S
def F_X9_would (N : Nat) (v0 : Nat) (v1 : Int32) (v2 : Int32) (v3 : Int32) (v4 : Int32) (v5 : Int32) (v6 : Int32) (v7 : Int32) (S : AxS) : Option (AxT Int32) :=
  if v1 < 0 then (F_X9_would_26 N  v0 v1 v2 v3 v4 v5 v6 v7 v0 S) else (if 99999 < v1 then (F_X9_would_26 N  v0 v1 v2 v3 v4 v5 v6 v7 v0 S) else (if v2 < 0 then (F_X9_would_26 N  v0 v1 v2 v3 v4 v5 v6 v7 v0 S) else (if 999 < v2 then (F_X9_would_26 N  v0 v1 v2 v3 v4 v5 v6 v7 v0 S) else (F_X9_would_27 N  v0 v1 v2 v3 v4 v5 v6 v7 1 v0 S))))

def F_X9_noise_29 (N : Nat)  (v0 : Nat) (v1 : Int32) (v2 : Int32) (w0 : Int32) (w1 : Nat) (S : AxS) : Option (AxT Int32) :=
  ax_is S w1 9 <| axBT (F_X9_needArgument N w1 w0 S) fun _ T2 => ax_gr T2 v0 9 1 fun a4 => ax_is T2 a4 1 <| axB (F_X1_loud N a4 v1 v2 T2) fun x7 T6 => some (.inl x7, T6)
def F_X9_noise_28 (N : Nat)  (v0 : Nat) (v1 : Int32) (v2 : Int32) (w0 : Nat) (S : AxS) : Option (AxT Int32) :=
  F_X9_noise_29 N  v0 v1 v2 0 w0 S
def F_X9_noise (N : Nat) (v0 : Nat) (v1 : Int32) (v2 : Int32) (S : AxS) : Option (AxT Int32) :=
  ax_gr S v0 9 1 fun a1 => ax_gi S a1 1 4 fun x2 => ax_is S v0 9 <| axBT (F_X9_needOne N v0 v1 x2 S) fun _ T4 => if v2 < 0 then (F_X9_noise_28 N  v0 v1 v2 v0 T4) else (if 999 < v2 then (F_X9_noise_28 N  v0 v1 v2 v0 T4) else (F_X9_noise_29 N  v0 v1 v2 1 v0 T4))

def F_X9_ahead_65 (N : Nat) (K44 : Nat → Int32 → Int32 → Int32 → Int32 → AxS → Option (AxT Int32)) (v0 : Nat) (v1 : Int32) (v2 : Int32) (v3 : Int32) (v4 : Int32) (S : AxS) : Option (AxT Int32) :=
  K44 v0 v1 v2 v3 (v4 + 1) S
def F_X9_ahead_44b (N : Nat) (K44 : Nat → Int32 → Int32 → Int32 → Int32 → AxS → Option (AxT Int32)) (v0 : Nat) (v1 : Int32) (v2 : Int32) (v3 : Int32) (v4 : Int32) (S : AxS) : Option (AxT Int32) :=
  if v1 ≤ v4 then (if v2 = 0 then (ax_gr S v0 9 9 fun a1 => ax_gi S a1 5 10 fun x2 => ax_gr S v0 9 8 fun a3 => ax_gi S a3 5 10 fun x4 => some (.inl (x2 - x4), S)) else (if v2 = 1 then (ax_gr S v0 9 9 fun a6 => ax_gi S a6 5 0 fun x7 => some (.inl x7, S)) else (if v2 = 2 then (ax_gr S v0 9 9 fun a9 => ax_gi S a9 5 11 fun x10 => ax_gr S v0 9 8 fun a11 => ax_gi S a11 5 11 fun x12 => some (.inl (x10 - x12), S)) else (some (.inl v3, S))))) else (ax_gr S v0 9 9 fun a14 => ax_is S v0 9 <| axB (F_X9_passNight N v0 a14 0 S) fun x17 T16 => if x17 = 0 then (F_X9_ahead_65 N K44 v0 v1 v2 (v3 + 1) v4 T16) else (F_X9_ahead_65 N K44 v0 v1 v2 v3 v4 T16))
def F_X9_ahead_44 (N : Nat)  : Nat → Nat → Int32 → Int32 → Int32 → Int32 → AxS → Option (AxT Int32) := axIter (fun KK => F_X9_ahead_44b N KK) (fun _ _ _ _ _ _ => none)
def F_X9_ahead_25 (N : Nat)  (v0 : Nat) (v1 : Int32) (v2 : Int32) (w0 : Int32) (w1 : Nat) (S : AxS) : Option (AxT Int32) :=
  ax_is S w1 9 <| axBT (F_X9_needArgument N w1 w0 S) fun _ T2 => ax_gr T2 v0 9 9 fun a4 => ax_gr T2 v0 9 8 fun a5 => ax_is T2 a4 5 <| axBV (F_X5_take N a4 a5 T2) fun T7 => F_X9_ahead_44 N  N v0 v1 v2 0 0 T7
def F_X9_ahead_24 (N : Nat)  (v0 : Nat) (v1 : Int32) (v2 : Int32) (w0 : Nat) (S : AxS) : Option (AxT Int32) :=
  F_X9_ahead_25 N  v0 v1 v2 0 w0 S
def F_X9_ahead (N : Nat) (v0 : Nat) (v1 : Int32) (v2 : Int32) (S : AxS) : Option (AxT Int32) :=
  if v1 < 0 then (F_X9_ahead_24 N  v0 v1 v2 v0 S) else (if 60 < v1 then (F_X9_ahead_24 N  v0 v1 v2 v0 S) else (if v2 < 0 then (F_X9_ahead_24 N  v0 v1 v2 v0 S) else (if 3 < v2 then (F_X9_ahead_24 N  v0 v1 v2 v0 S) else (F_X9_ahead_25 N  v0 v1 v2 1 v0 S))))

def F_X9_loudest_66 (N : Nat) (K36 : Nat → Int32 → Int32 → Int32 → Int32 → AxS → Option (AxT Int32)) (v0 : Nat) (v1 : Int32) (v2 : Int32) (v3 : Int32) (v4 : Int32) (S : AxS) : Option (AxT Int32) :=
  K36 v0 v1 v2 v3 (v4 + 1) S
def F_X9_loudest_36b (N : Nat) (K36 : Nat → Int32 → Int32 → Int32 → Int32 → AxS → Option (AxT Int32)) (v0 : Nat) (v1 : Int32) (v2 : Int32) (v3 : Int32) (v4 : Int32) (S : AxS) : Option (AxT Int32) :=
  if 60 ≤ v4 then (if v1 = 0 then (some (.inl v3, S)) else (some (.inl v2, S))) else (ax_gr S v0 9 9 fun a1 => ax_is S v0 9 <| axB (F_X9_passNight N v0 a1 0 S) fun x4 T3 => if x4 ≤ v2 then (F_X9_loudest_66 N K36 v0 v1 v2 v3 v4 T3) else (F_X9_loudest_66 N K36 v0 v1 x4 v4 v4 T3))
def F_X9_loudest_36 (N : Nat)  : Nat → Nat → Int32 → Int32 → Int32 → Int32 → AxS → Option (AxT Int32) := axIter (fun KK => F_X9_loudest_36b N KK) (fun _ _ _ _ _ _ => none)
def F_X9_loudest_15 (N : Nat)  (v0 : Nat) (v1 : Int32) (w0 : Int32) (w1 : Nat) (S : AxS) : Option (AxT Int32) :=
  ax_is S w1 9 <| axBT (F_X9_needArgument N w1 w0 S) fun _ T2 => ax_gr T2 v0 9 9 fun a4 => ax_gr T2 v0 9 8 fun a5 => ax_is T2 a4 5 <| axBV (F_X5_take N a4 a5 T2) fun T7 => F_X9_loudest_36 N  N v0 v1 ((-1)) 0 0 T7
def F_X9_loudest_14 (N : Nat)  (v0 : Nat) (v1 : Int32) (w0 : Nat) (S : AxS) : Option (AxT Int32) :=
  F_X9_loudest_15 N  v0 v1 0 w0 S
def F_X9_loudest (N : Nat) (v0 : Nat) (v1 : Int32) (S : AxS) : Option (AxT Int32) :=
  if v1 < 0 then (F_X9_loudest_14 N  v0 v1 v0 S) else (if 1 < v1 then (F_X9_loudest_14 N  v0 v1 v0 S) else (F_X9_loudest_15 N  v0 v1 1 v0 S))

def F_X9_hush_22b (N : Nat) (K22 : Nat → Int32 → Int32 → AxS → Option (AxT Int32)) (v0 : Nat) (v1 : Int32) (v2 : Int32) (S : AxS) : Option (AxT Int32) :=
  if 999 < v2 then (some (.inl ((-1)), S)) else (ax_gr S v0 9 9 fun a1 => ax_gr S v0 9 8 fun a2 => ax_is S a1 5 <| axBV (F_X5_take N a1 a2 S) fun T4 => ax_gr T4 v0 9 9 fun a6 => ax_is T4 a6 5 <| axB (F_X5_pays N a6 v2 T4) fun x9 T8 => if x9 = 0 then (some (.inl ((-1)), T8)) else (ax_gr T8 v0 9 9 fun a10 => ax_is T8 v0 9 <| axB (F_X9_strokesOf N v0 a10 0 T8) fun x13 T12 => if v1 < x13 then (K22 v0 v1 (v2 + 1) T12) else (some (.inl v2, T12))))
def F_X9_hush_22 (N : Nat)  : Nat → Nat → Int32 → Int32 → AxS → Option (AxT Int32) := axIter (fun KK => F_X9_hush_22b N KK) (fun _ _ _ _ => none)
def F_X9_hush_17 (N : Nat)  (v0 : Nat) (v1 : Int32) (w0 : Int32) (w1 : Nat) (S : AxS) : Option (AxT Int32) :=
  ax_is S w1 9 <| axBT (F_X9_needArgument N w1 w0 S) fun _ T2 => F_X9_hush_22 N  N v0 v1 0 T2
def F_X9_hush_16 (N : Nat)  (v0 : Nat) (v1 : Int32) (w0 : Nat) (S : AxS) : Option (AxT Int32) :=
  F_X9_hush_17 N  v0 v1 0 w0 S
def F_X9_hush (N : Nat) (v0 : Nat) (v1 : Int32) (S : AxS) : Option (AxT Int32) :=
  if v1 < 0 then (F_X9_hush_16 N  v0 v1 v0 S) else (if 999 < v1 then (F_X9_hush_16 N  v0 v1 v0 S) else (F_X9_hush_17 N  v0 v1 1 v0 S))

def F_X9_tensOf (N : Nat) (v0 : Int32) (v1 : Int32) (v2 : Int32) (S : AxS) : Option (Int32 × AxS) :=
  if ((v0 >>> ((2 * ((v1 - 1) - v2)) &&& 31)) &&& 3) = 3 then (some (4, S)) else (some ((v0 >>> ((2 * ((v1 - 1) - v2)) &&& 31)) &&& 3, S))

def F_X9_tensTogether_4b (N : Nat) (K4 : Int32 → Int32 → Int32 → Int32 → AxS → Option (Int32 × AxS)) (v0 : Int32) (v1 : Int32) (v2 : Int32) (v3 : Int32) (S : AxS) : Option (Int32 × AxS) :=
  if v1 ≤ v3 then (some (v2, S)) else (axB (F_X9_tensOf N v0 v1 v3 S) fun x2 T1 => K4 v0 v1 (v2 + x2) (v3 + 1) T1)
def F_X9_tensTogether_4 (N : Nat)  : Nat → Int32 → Int32 → Int32 → Int32 → AxS → Option (Int32 × AxS) := axIter (fun KK => F_X9_tensTogether_4b N KK) (fun _ _ _ _ _ => none)
def F_X9_tensTogether (N : Nat) (v0 : Int32) (v1 : Int32) (S : AxS) : Option (Int32 × AxS) :=
  F_X9_tensTogether_4 N  N v0 v1 0 0 S

def F_X9_staysQuiet_72 (N : Nat) (K14 : Nat → Int32 → Int32 → Int32 → Int32 → Int32 → AxS → Option (Int32 × AxS)) (v0 : Nat) (v1 : Int32) (v2 : Int32) (v3 : Int32) (v4 : Int32) (v5 : Int32) (S : AxS) : Option (Int32 × AxS) :=
  K14 v0 v1 v2 v3 v4 (v5 + 1) S
def F_X9_staysQuiet_14b (N : Nat) (K14 : Nat → Int32 → Int32 → Int32 → Int32 → Int32 → AxS → Option (Int32 × AxS)) (v0 : Nat) (v1 : Int32) (v2 : Int32) (v3 : Int32) (v4 : Int32) (v5 : Int32) (S : AxS) : Option (Int32 × AxS) :=
  if v2 ≤ v5 then (ax_rz 1 (some (1, S))) else (ax_gr S v0 9 9 fun a1 => axB (F_X9_tensOf N v1 v2 v5 S) fun x3 T2 => ax_is T2 a1 5 <| axB (F_X5_pays N a1 (10 * x3) T2) fun x6 T5 => if x6 = 0 then (ax_rz 0 (some (0, T5))) else (ax_gr T5 v0 9 9 fun a7 => ax_is T5 v0 9 <| axB (F_X9_passNight N v0 a7 0 T5) fun x10 T9 => if ((v4 >>> (v5 &&& 31)) &&& 1) = 1 then (if x10 ≤ v3 then (F_X9_staysQuiet_72 N K14 v0 v1 v2 v3 v4 v5 T9) else (ax_rz 0 (some (0, T9)))) else (F_X9_staysQuiet_72 N K14 v0 v1 v2 v3 v4 v5 T9)))
def F_X9_staysQuiet_14 (N : Nat)  : Nat → Nat → Int32 → Int32 → Int32 → Int32 → Int32 → AxS → Option (Int32 × AxS) := axIter (fun KK => F_X9_staysQuiet_14b N KK) (fun _ _ _ _ _ _ _ => none)
def F_X9_staysQuiet (N : Nat) (v0 : Nat) (v1 : Int32) (v2 : Int32) (v3 : Int32) (v4 : Int32) (S : AxS) : Option (Int32 × AxS) :=
  ax_gr S v0 9 9 fun a1 => ax_gr S v0 9 8 fun a2 => ax_is S a1 5 <| axBV (F_X5_take N a1 a2 S) fun T4 => F_X9_staysQuiet_14 N  N v0 v1 v2 v3 v4 0 T4

def F_X9_tensAsDigits_4b (N : Nat) (K4 : Int32 → Int32 → Int32 → Int32 → AxS → Option (Int32 × AxS)) (v0 : Int32) (v1 : Int32) (v2 : Int32) (v3 : Int32) (S : AxS) : Option (Int32 × AxS) :=
  if v1 ≤ v3 then (some (v2, S)) else (axB (F_X9_tensOf N v0 v1 v3 S) fun x2 T1 => K4 v0 v1 ((10 * v2) + x2) (v3 + 1) T1)
def F_X9_tensAsDigits_4 (N : Nat)  : Nat → Int32 → Int32 → Int32 → Int32 → AxS → Option (Int32 × AxS) := axIter (fun KK => F_X9_tensAsDigits_4b N KK) (fun _ _ _ _ _ => none)
def F_X9_tensAsDigits (N : Nat) (v0 : Int32) (v1 : Int32) (S : AxS) : Option (Int32 × AxS) :=
  F_X9_tensAsDigits_4 N  N v0 v1 0 0 S

def F_X9_plan_120 (N : Nat) (K69 : Nat → Int32 → Int32 → Int32 → Int32 → Int32 → Int32 → Int32 → AxS → Option (AxT Int32)) (v0 : Nat) (v1 : Int32) (v2 : Int32) (v3 : Int32) (v4 : Int32) (v5 : Int32) (v6 : Int32) (v7 : Int32) (S : AxS) : Option (AxT Int32) :=
  K69 v0 v1 v2 v3 v4 v5 v6 (v7 + 1) S
def F_X9_plan_100 (N : Nat) (K69 : Nat → Int32 → Int32 → Int32 → Int32 → Int32 → Int32 → Int32 → AxS → Option (AxT Int32)) (v0 : Nat) (v1 : Int32) (v2 : Int32) (v3 : Int32) (v4 : Int32) (v5 : Int32) (v6 : Int32) (v7 : Int32) (v8 : Int32) (S : AxS) : Option (AxT Int32) :=
  ax_is S v0 9 <| axB (F_X9_staysQuiet N v0 v7 v1 v2 v3 S) fun x3 T2 => if x3 = 0 then (F_X9_plan_120 N K69 v0 v1 v2 v3 v4 v5 v6 v7 T2) else (F_X9_plan_120 N K69 v0 v1 v2 v3 v4 v8 v7 v7 T2)
def F_X9_plan_69b (N : Nat) (K69 : Nat → Int32 → Int32 → Int32 → Int32 → Int32 → Int32 → Int32 → AxS → Option (AxT Int32)) (v0 : Nat) (v1 : Int32) (v2 : Int32) (v3 : Int32) (v4 : Int32) (v5 : Int32) (v6 : Int32) (v7 : Int32) (S : AxS) : Option (AxT Int32) :=
  if (1 <<< ((2 * v1) &&& 31)) ≤ v7 then (if v5 = ((-1)) then (some (.inl ((-1)), S)) else (if v4 = 0 then (some (.inl (10 * v5), S)) else (axB (F_X9_tensAsDigits N v6 v1 S) fun x2 T1 => some (.inl x2, T1)))) else (axB (F_X9_tensTogether N v7 v1 S) fun x4 T3 => if v5 = ((-1)) then (F_X9_plan_100 N K69 v0 v1 v2 v3 v4 v5 v6 v7 x4 T3) else (if v5 ≤ x4 then (F_X9_plan_120 N K69 v0 v1 v2 v3 v4 v5 v6 v7 T3) else (F_X9_plan_100 N K69 v0 v1 v2 v3 v4 v5 v6 v7 x4 T3)))
def F_X9_plan_69 (N : Nat)  : Nat → Nat → Int32 → Int32 → Int32 → Int32 → Int32 → Int32 → Int32 → AxS → Option (AxT Int32) := axIter (fun KK => F_X9_plan_69b N KK) (fun _ _ _ _ _ _ _ _ _ => none)
def F_X9_plan_57 (N : Nat)  (v0 : Nat) (v1 : Int32) (v2 : Int32) (v3 : Int32) (v4 : Int32) (w0 : Int32) (w1 : Nat) (S : AxS) : Option (AxT Int32) :=
  ax_is S w1 9 <| axBT (F_X9_needArgument N w1 w0 S) fun _ T2 => F_X9_plan_69 N  N v0 v1 v2 v3 v4 ((-1)) 0 0 T2
def F_X9_plan_56 (N : Nat)  (v0 : Nat) (v1 : Int32) (v2 : Int32) (v3 : Int32) (v4 : Int32) (w0 : Nat) (S : AxS) : Option (AxT Int32) :=
  F_X9_plan_57 N  v0 v1 v2 v3 v4 0 w0 S
def F_X9_plan_26 (N : Nat)  (v0 : Nat) (v1 : Int32) (v2 : Int32) (v3 : Int32) (v4 : Int32) (w0 : Int32) (w1 : Nat) (S : AxS) : Option (AxT Int32) :=
  ax_is S w1 9 <| axBT (F_X9_needArgument N w1 w0 S) fun _ T2 => if v3 < 0 then (F_X9_plan_56 N  v0 v1 v2 v3 v4 v0 T2) else (if (1 <<< (v1 &&& 31)) ≤ v3 then (F_X9_plan_56 N  v0 v1 v2 v3 v4 v0 T2) else (if v4 < 0 then (F_X9_plan_56 N  v0 v1 v2 v3 v4 v0 T2) else (if 1 < v4 then (F_X9_plan_56 N  v0 v1 v2 v3 v4 v0 T2) else (F_X9_plan_57 N  v0 v1 v2 v3 v4 1 v0 T2))))
def F_X9_plan_25 (N : Nat)  (v0 : Nat) (v1 : Int32) (v2 : Int32) (v3 : Int32) (v4 : Int32) (w0 : Nat) (S : AxS) : Option (AxT Int32) :=
  F_X9_plan_26 N  v0 v1 v2 v3 v4 0 w0 S
def F_X9_plan (N : Nat) (v0 : Nat) (v1 : Int32) (v2 : Int32) (v3 : Int32) (v4 : Int32) (S : AxS) : Option (AxT Int32) :=
  if v1 < 0 then (F_X9_plan_25 N  v0 v1 v2 v3 v4 v0 S) else (if 5 < v1 then (F_X9_plan_25 N  v0 v1 v2 v3 v4 v0 S) else (if v2 < 0 then (F_X9_plan_25 N  v0 v1 v2 v3 v4 v0 S) else (if 999 < v2 then (F_X9_plan_25 N  v0 v1 v2 v3 v4 v0 S) else (F_X9_plan_26 N  v0 v1 v2 v3 v4 1 v0 S))))

def F_X9_grows_32b (N : Nat) (K32 : Nat → Int32 → Int32 → AxS → Option (AxT Int32)) (v0 : Nat) (v1 : Int32) (v2 : Int32) (S : AxS) : Option (AxT Int32) :=
  if 120 < v2 then (some (.inl ((-1)), S)) else (ax_gr S v0 9 9 fun a1 => ax_gi S a1 5 0 fun x2 => if x2 < v1 then (ax_gr S v0 9 9 fun a3 => ax_is S v0 9 <| axB (F_X9_passNight N v0 a3 0 S) fun x6 T5 => K32 v0 v1 (v2 + 1) T5) else (some (.inl v2, S)))
def F_X9_grows_32 (N : Nat)  : Nat → Nat → Int32 → Int32 → AxS → Option (AxT Int32) := axIter (fun KK => F_X9_grows_32b N KK) (fun _ _ _ _ => none)
def F_X9_grows_16 (N : Nat)  (v0 : Nat) (v1 : Int32) (w0 : Int32) (w1 : Nat) (S : AxS) : Option (AxT Int32) :=
  ax_is S w1 9 <| axBT (F_X9_needArgument N w1 w0 S) fun _ T2 => ax_gr T2 v0 9 9 fun a4 => ax_gr T2 v0 9 8 fun a5 => ax_is T2 a4 5 <| axBV (F_X5_take N a4 a5 T2) fun T7 => F_X9_grows_32 N  N v0 v1 0 T7
def F_X9_grows_15 (N : Nat)  (v0 : Nat) (v1 : Int32) (w0 : Nat) (S : AxS) : Option (AxT Int32) :=
  F_X9_grows_16 N  v0 v1 0 w0 S
def F_X9_grows (N : Nat) (v0 : Nat) (v1 : Int32) (S : AxS) : Option (AxT Int32) :=
  if v1 < 0 then (F_X9_grows_15 N  v0 v1 v0 S) else (if 99999 < v1 then (F_X9_grows_15 N  v0 v1 v0 S) else (F_X9_grows_16 N  v0 v1 1 v0 S))

def F_X9_needYears_58 (N : Nat)  (w0 : Int32) (w1 : Nat) (S : AxS) : Option (AxT Unit) :=
  ax_is S w1 9 <| axBT (F_X9_needArgument N w1 w0 S) fun _ T2 => some (.inl (), T2)
def F_X9_needYears_57 (N : Nat)  (w0 : Nat) (S : AxS) : Option (AxT Unit) :=
  F_X9_needYears_58 N  0 w0 S
def F_X9_needYears_29 (N : Nat)  (v0 : Nat) (v2 : Int32) (v3 : Int32) (w0 : Int32) (w1 : Nat) (S : AxS) : Option (AxT Unit) :=
  ax_is S w1 9 <| axBT (F_X9_needArgument N w1 w0 S) fun _ T2 => if v2 < 0 then (F_X9_needYears_57 N  v0 T2) else (if 16 < v2 then (F_X9_needYears_57 N  v0 T2) else (if v3 < 0 then (F_X9_needYears_57 N  v0 T2) else (if 16 < v3 then (F_X9_needYears_57 N  v0 T2) else (F_X9_needYears_58 N  1 v0 T2))))
def F_X9_needYears_28 (N : Nat)  (v0 : Nat) (v2 : Int32) (v3 : Int32) (w0 : Nat) (S : AxS) : Option (AxT Unit) :=
  F_X9_needYears_29 N  v0 v2 v3 0 w0 S
def F_X9_needYears (N : Nat) (v0 : Nat) (v1 : Int32) (v2 : Int32) (v3 : Int32) (v4 : Int32) (S : AxS) : Option (AxT Unit) :=
  if v1 < 1 then (F_X9_needYears_28 N  v0 v2 v3 v0 S) else (if 96 < v1 then (F_X9_needYears_28 N  v0 v2 v3 v0 S) else (if v4 < 0 then (F_X9_needYears_28 N  v0 v2 v3 v0 S) else (if 99 < v4 then (F_X9_needYears_28 N  v0 v2 v3 v0 S) else (F_X9_needYears_29 N  v0 v2 v3 1 v0 S))))

def F_X9_nextSeed (N : Nat) (v0 : Int32) (S : AxS) : Option (Int32 × AxS) :=
  some ((v0 * 1103515245) + 12345, S)

def F_X9_sixteenth (N : Nat) (v0 : Int32) (S : AxS) : Option (Int32 × AxS) :=
  ax_ne 16 <| some (((axUshr v0 16) &&& 32767) - ((axUshr v0 16) &&& 32767) / 16 * 16, S)

def F_X9_runYears_116 (N : Nat) (K20 : Nat → Int32 → Int32 → Int32 → Int32 → Int32 → Int32 → Int32 → AxS → Option (Int32 × AxS)) (v0 : Nat) (v2 : Int32) (v3 : Int32) (v4 : Int32) (v5 : Int32) (v6 : Int32) (v7 : Int32) (v8 : Int32) (v9 : Int32) (S : AxS) : Option (Int32 × AxS) :=
  ax_gr S v0 9 9 fun a1 => ax_gr S v0 9 9 fun a2 => ax_gi S a2 5 1 fun x3 => ax_gr S v0 9 9 fun a4 => ax_gi S a4 5 0 fun x5 => axB (F_J9_min_7cf53 N x3 x5 S) fun x7 T6 => axB (F_J9_min_7cf53 N v5 x7 T6) fun x9 T8 => ax_is T8 a1 5 <| axB (F_X5_pays N a1 x9 T8) fun x12 T11 => ax_gr T11 v0 9 9 fun a13 => ax_is T11 v0 9 <| axB (F_X9_passNight N v0 a13 v9 T11) fun x16 T15 => K20 v0 v2 v3 v4 v5 v6 v7 (v8 + 1) T15
def F_X9_runYears_76b (N : Nat) (K20 : Nat → Int32 → Int32 → Int32 → Int32 → Int32 → Int32 → Int32 → AxS → Option (Int32 × AxS)) (K76 : Nat → Int32 → Int32 → Int32 → Int32 → Int32 → Int32 → Int32 → Int32 → Int32 → AxS → Option (Int32 × AxS)) (v0 : Nat) (v2 : Int32) (v3 : Int32) (v4 : Int32) (v5 : Int32) (v6 : Int32) (v7 : Int32) (v8 : Int32) (v9 : Int32) (v10 : Int32) (S : AxS) : Option (Int32 × AxS) :=
  ax_gr S v0 9 1 fun a1 => ax_gi S a1 1 3 fun x2 => if x2 ≤ v10 then (F_X9_runYears_116 N K20 v0 v2 v3 v4 v5 v6 v7 v8 v9 S) else (ax_gr S v0 9 9 fun a3 => ax_gr S v0 9 1 fun a4 => ax_gr S a4 1 8 fun a5 => axB (F_X9_at N a5 v10 S) fun x7 T6 => ax_is T6 a3 5 <| axB (F_X5_gives N a3 v10 x7 T6) fun x10 T9 => K76 v0 v2 v3 v4 v5 v6 v7 v8 v9 (v10 + 1) T9)
def F_X9_runYears_76 (N : Nat) (K20 : Nat → Int32 → Int32 → Int32 → Int32 → Int32 → Int32 → Int32 → AxS → Option (Int32 × AxS)) : Nat → Nat → Int32 → Int32 → Int32 → Int32 → Int32 → Int32 → Int32 → Int32 → Int32 → AxS → Option (Int32 × AxS) := axIter (fun KK => F_X9_runYears_76b N K20 KK) (fun _ _ _ _ _ _ _ _ _ _ _ => none)
def F_X9_runYears_47 (N : Nat) (K20 : Nat → Int32 → Int32 → Int32 → Int32 → Int32 → Int32 → Int32 → AxS → Option (Int32 × AxS)) (v0 : Nat) (v2 : Int32) (v3 : Int32) (v4 : Int32) (v5 : Int32) (v6 : Int32) (v7 : Int32) (v8 : Int32) (w0 : Int32) (S : AxS) : Option (Int32 × AxS) :=
  axB (F_X9_nextSeed N v6 S) fun x2 T1 => axB (F_X9_sixteenth N x2 T1) fun x4 T3 => if x4 < v4 then (F_X9_runYears_116 N K20 v0 v2 v3 v4 v5 x2 (v7 + w0) v8 w0 T3) else (F_X9_runYears_76 N K20 N v0 v2 v3 v4 v5 x2 (v7 + w0) v8 w0 0 T3)
def F_X9_runYears_20b (N : Nat) (K20 : Nat → Int32 → Int32 → Int32 → Int32 → Int32 → Int32 → Int32 → AxS → Option (Int32 × AxS)) (v0 : Nat) (v2 : Int32) (v3 : Int32) (v4 : Int32) (v5 : Int32) (v6 : Int32) (v7 : Int32) (v8 : Int32) (S : AxS) : Option (Int32 × AxS) :=
  if v2 ≤ v8 then (some (v7, S)) else (axB (F_X9_nextSeed N v6 S) fun x2 T1 => axB (F_X9_sixteenth N x2 T1) fun x4 T3 => if v3 ≤ x4 then (F_X9_runYears_47 N K20 v0 v2 v3 v4 v5 x2 v7 v8 0 T3) else (F_X9_runYears_47 N K20 v0 v2 v3 v4 v5 x2 v7 v8 1 T3))
def F_X9_runYears_20 (N : Nat)  : Nat → Nat → Int32 → Int32 → Int32 → Int32 → Int32 → Int32 → Int32 → AxS → Option (Int32 × AxS) := axIter (fun KK => F_X9_runYears_20b N KK) (fun _ _ _ _ _ _ _ _ _ => none)
def F_X9_runYears (N : Nat) (v0 : Nat) (v1 : Int32) (v2 : Int32) (v3 : Int32) (v4 : Int32) (v5 : Int32) (S : AxS) : Option (Int32 × AxS) :=
  ax_gr S v0 9 9 fun a1 => ax_gr S v0 9 8 fun a2 => ax_is S a1 5 <| axBV (F_X5_take N a1 a2 S) fun T4 => F_X9_runYears_20 N  N v0 v2 v3 v4 v5 v1 0 0 T4

def F_X9_years_27 (N : Nat)  (v0 : Nat) (v1 : Int32) (v2 : Int32) (v3 : Int32) (v4 : Int32) (v5 : Int32) (v6 : Int32) (w0 : Int32) (w1 : Nat) (S : AxS) : Option (AxT Int32) :=
  ax_is S w1 9 <| axBT (F_X9_needArgument N w1 w0 S) fun _ T2 => ax_is T2 v0 9 <| axB (F_X9_runYears N v0 v1 v2 v3 v4 v5 T2) fun x6 T5 => if v6 = 0 then (ax_gr T5 v0 9 9 fun a7 => ax_gi T5 a7 5 0 fun x8 => some (.inl x8, T5)) else (if v6 = 1 then (ax_gr T5 v0 9 9 fun a10 => ax_gi T5 a10 5 10 fun x11 => ax_gr T5 v0 9 8 fun a12 => ax_gi T5 a12 5 10 fun x13 => some (.inl (x11 - x13), T5)) else (if v6 = 2 then (ax_gr T5 v0 9 9 fun a15 => ax_gi T5 a15 5 11 fun x16 => ax_gr T5 v0 9 8 fun a17 => ax_gi T5 a17 5 11 fun x18 => some (.inl (x16 - x18), T5)) else (some (.inl x6, T5))))
def F_X9_years_26 (N : Nat)  (v0 : Nat) (v1 : Int32) (v2 : Int32) (v3 : Int32) (v4 : Int32) (v5 : Int32) (v6 : Int32) (w0 : Nat) (S : AxS) : Option (AxT Int32) :=
  F_X9_years_27 N  v0 v1 v2 v3 v4 v5 v6 0 w0 S
def F_X9_years (N : Nat) (v0 : Nat) (v1 : Int32) (v2 : Int32) (v3 : Int32) (v4 : Int32) (v5 : Int32) (v6 : Int32) (S : AxS) : Option (AxT Int32) :=
  ax_is S v0 9 <| axBT (F_X9_needYears N v0 v2 v3 v4 v5 S) fun _ T2 => if v6 < 0 then (F_X9_years_26 N  v0 v1 v2 v3 v4 v5 v6 v0 T2) else (if 3 < v6 then (F_X9_years_26 N  v0 v1 v2 v3 v4 v5 v6 v0 T2) else (F_X9_years_27 N  v0 v1 v2 v3 v4 v5 v6 1 v0 T2))

def F_X9_span_118 (N : Nat) (K55 : Nat → Int32 → Int32 → Int32 → Int32 → Int32 → Int32 → Int32 → Int32 → Int32 → Int32 → Int32 → AxS → Option (AxT Int32)) (v0 : Nat) (v1 : Int32) (v2 : Int32) (v3 : Int32) (v4 : Int32) (v5 : Int32) (v6 : Int32) (v7 : Int32) (v8 : Int32) (v9 : Int32) (v10 : Int32) (v11 : Int32) (S : AxS) : Option (AxT Int32) :=
  K55 v0 v1 v2 v3 v4 v5 v6 v7 v8 v9 v10 (v11 + 1) S
def F_X9_span_55b (N : Nat) (K55 : Nat → Int32 → Int32 → Int32 → Int32 → Int32 → Int32 → Int32 → Int32 → Int32 → Int32 → Int32 → AxS → Option (AxT Int32)) (v0 : Nat) (v1 : Int32) (v2 : Int32) (v3 : Int32) (v4 : Int32) (v5 : Int32) (v6 : Int32) (v7 : Int32) (v8 : Int32) (v9 : Int32) (v10 : Int32) (v11 : Int32) (S : AxS) : Option (AxT Int32) :=
  if v2 ≤ v11 then (if v7 = 0 then (some (.inl v8, S)) else (if v7 = 1 then (some (.inl v9, S)) else (some (.inl v10, S)))) else (ax_is S v0 9 <| axB (F_X9_runYears N v0 (v1 + v11) v3 v4 v5 v6 S) fun x5 T4 => ax_gr T4 v0 9 9 fun a6 => ax_gi T4 a6 5 0 fun x7 => axB (F_J9_min_7cf53 N v8 x7 T4) fun x9 T8 => ax_gr T8 v0 9 9 fun a10 => ax_gi T8 a10 5 0 fun x11 => axB (F_J9_max_7cf53 N v9 x11 T8) fun x13 T12 => ax_gr T12 v0 9 9 fun a14 => ax_gi T12 a14 5 0 fun x15 => if x15 = 0 then (F_X9_span_118 N K55 v0 v1 v2 v3 v4 v5 v6 v7 x9 x13 (v10 + 1) v11 T12) else (F_X9_span_118 N K55 v0 v1 v2 v3 v4 v5 v6 v7 x9 x13 v10 v11 T12))
def F_X9_span_55 (N : Nat)  : Nat → Nat → Int32 → Int32 → Int32 → Int32 → Int32 → Int32 → Int32 → Int32 → Int32 → Int32 → Int32 → AxS → Option (AxT Int32) := axIter (fun KK => F_X9_span_55b N KK) (fun _ _ _ _ _ _ _ _ _ _ _ _ _ => none)
def F_X9_span_39 (N : Nat)  (v0 : Nat) (v1 : Int32) (v2 : Int32) (v3 : Int32) (v4 : Int32) (v5 : Int32) (v6 : Int32) (v7 : Int32) (w0 : Int32) (w1 : Nat) (S : AxS) : Option (AxT Int32) :=
  ax_is S w1 9 <| axBT (F_X9_needArgument N w1 w0 S) fun _ T2 => F_X9_span_55 N  N v0 v1 v2 v3 v4 v5 v6 v7 99999 0 0 0 T2
def F_X9_span_38 (N : Nat)  (v0 : Nat) (v1 : Int32) (v2 : Int32) (v3 : Int32) (v4 : Int32) (v5 : Int32) (v6 : Int32) (v7 : Int32) (w0 : Nat) (S : AxS) : Option (AxT Int32) :=
  F_X9_span_39 N  v0 v1 v2 v3 v4 v5 v6 v7 0 w0 S
def F_X9_span (N : Nat) (v0 : Nat) (v1 : Int32) (v2 : Int32) (v3 : Int32) (v4 : Int32) (v5 : Int32) (v6 : Int32) (v7 : Int32) (S : AxS) : Option (AxT Int32) :=
  ax_is S v0 9 <| axBT (F_X9_needYears N v0 v3 v4 v5 v6 S) fun _ T2 => if v2 < 1 then (F_X9_span_38 N  v0 v1 v2 v3 v4 v5 v6 v7 v0 T2) else (if 20 < v2 then (F_X9_span_38 N  v0 v1 v2 v3 v4 v5 v6 v7 v0 T2) else (if v7 < 0 then (F_X9_span_38 N  v0 v1 v2 v3 v4 v5 v6 v7 v0 T2) else (if 2 < v7 then (F_X9_span_38 N  v0 v1 v2 v3 v4 v5 v6 v7 v0 T2) else (F_X9_span_39 N  v0 v1 v2 v3 v4 v5 v6 v7 1 v0 T2))))

def F_X9_isRight_66 (N : Nat) (K21 : Nat → Int32 → Int32 → AxS → Option (Int32 × AxS)) (v0 : Nat) (v2 : Int32) (v3 : Int32) (v4 : Int32) (S : AxS) : Option (Int32 × AxS) :=
  ax_gr S v0 9 16 fun a1 => ax_gr S a1 2 7 fun a2 => axBV (F_X9_put N a2 v3 v4 S) fun T3 => ax_gr T3 v0 9 9 fun a5 => ax_gr T3 v0 9 1 fun a6 => ax_is T3 a5 5 <| axBV (F_X5_turn N a5 v4 a6 v2 T3) fun T8 => K21 v0 v2 (v3 + 1) T8
def F_X9_isRight_21b (N : Nat) (K21 : Nat → Int32 → Int32 → AxS → Option (Int32 × AxS)) (v0 : Nat) (v2 : Int32) (v3 : Int32) (S : AxS) : Option (Int32 × AxS) :=
  if 60 ≤ v3 then (ax_rz 1 (some (1, S))) else (ax_gr S v0 9 9 fun a1 => ax_is S v0 9 <| axB (F_X9_strokesOf N v0 a1 0 S) fun x4 T3 => ax_gr T3 v0 9 5 fun a5 => ax_gr T3 a5 0 0 fun a6 => axB (F_X9_at N a6 v3 T3) fun x8 T7 => if x8 = ((-1)) then (F_X9_isRight_66 N K21 v0 v2 v3 x4 T7) else (if x8 = x4 then (F_X9_isRight_66 N K21 v0 v2 v3 x4 T7) else (ax_rz 0 (some (0, T7)))))
def F_X9_isRight_21 (N : Nat)  : Nat → Nat → Int32 → Int32 → AxS → Option (Int32 × AxS) := axIter (fun KK => F_X9_isRight_21b N KK) (fun _ _ _ _ => none)
def F_X9_isRight (N : Nat) (v0 : Nat) (v1 : Int32) (v2 : Int32) (S : AxS) : Option (Int32 × AxS) :=
  ax_gr S v0 9 9 fun a1 => ax_gr S v0 9 1 fun a2 => ax_is S a1 5 <| axBV (F_X5_begin N a1 a2 S) fun T4 => ax_gr T4 v0 9 9 fun a6 => ax_pi T4 a6 5 0 v1 fun T7 => F_X9_isRight_21 N  N v0 v2 0 T7

def F_X9_findFits_80 (N : Nat) (K20 : Nat → Int32 → AxS → Option (AxS)) (v0 : Nat) (v1 : Int32) (S : AxS) : Option (AxS) :=
  K20 v0 (v1 + 1) S
def F_X9_findFits_57 (N : Nat) (K31 : Nat → Int32 → Int32 → Int32 → AxS → Option (AxS)) (v0 : Nat) (v1 : Int32) (v2 : Int32) (v3 : Int32) (S : AxS) : Option (AxS) :=
  K31 v0 v1 v2 (v3 + 1) S
def F_X9_findFits_31b (N : Nat) (K20 : Nat → Int32 → AxS → Option (AxS)) (K31 : Nat → Int32 → Int32 → Int32 → AxS → Option (AxS)) (v0 : Nat) (v1 : Int32) (v2 : Int32) (v3 : Int32) (S : AxS) : Option (AxS) :=
  if 21 ≤ v3 then (if v2 = 0 then (F_X9_findFits_80 N K20 v0 v1 S) else (ax_gr S v0 9 16 fun a1 => ax_gi S a1 2 4 fun x2 => ax_pi S a1 2 4 (x2 + 1) fun T3 => F_X9_findFits_80 N K20 v0 v1 T3)) else (ax_is S v0 9 <| axB (F_X9_isRight N v0 v1 v3 S) fun x6 T5 => if x6 = 0 then (F_X9_findFits_57 N K31 v0 v1 v2 v3 T5) else (ax_gr T5 v0 9 16 fun a7 => ax_is T5 a7 2 <| axBV (F_X2_add N a7 v1 v3 T5) fun T9 => F_X9_findFits_57 N K31 v0 v1 1 v3 T9))
def F_X9_findFits_31 (N : Nat) (K20 : Nat → Int32 → AxS → Option (AxS)) : Nat → Nat → Int32 → Int32 → Int32 → AxS → Option (AxS) := axIter (fun KK => F_X9_findFits_31b N K20 KK) (fun _ _ _ _ _ => none)
def F_X9_findFits_20b (N : Nat) (K20 : Nat → Int32 → AxS → Option (AxS)) (v0 : Nat) (v1 : Int32) (S : AxS) : Option (AxS) :=
  if 200 ≤ v1 then (ax_gr S v0 9 16 fun a1 => ax_gr S v0 9 5 fun a2 => ax_is S a1 2 <| axBV (F_X2_choose N a1 a2 S) fun T4 => ax_gr T4 v0 9 16 fun a6 => ax_pi T4 a6 2 0 1 fun T7 => some T7) else (F_X9_findFits_31 N K20 N v0 v1 0 0 S)
def F_X9_findFits_20 (N : Nat)  : Nat → Nat → Int32 → AxS → Option (AxS) := axIter (fun KK => F_X9_findFits_20b N KK) (fun _ _ _ => none)
def F_X9_findFits (N : Nat) (v0 : Nat) (S : AxS) : Option (AxS) :=
  ax_gr S v0 9 16 fun a1 => ax_gi S a1 2 0 fun x2 => if x2 = 0 then (ax_gr S v0 9 16 fun a3 => ax_is S a3 2 <| axBV (F_X2_clear N a3 S) fun T5 => F_X9_findFits_20 N  N v0 0 T5) else (some S)

def F_X9_fits_15 (N : Nat)  (v0 : Nat) (v1 : Int32) (w0 : Int32) (w1 : Nat) (S : AxS) : Option (AxT Int32) :=
  ax_is S w1 9 <| axBT (F_X9_needArgument N w1 w0 S) fun _ T2 => ax_is T2 v0 9 <| axBV (F_X9_findFits N v0 T2) fun T5 => if v1 = 0 then (ax_gr T5 v0 9 16 fun a7 => ax_gi T5 a7 2 1 fun x8 => some (.inl x8, T5)) else (if v1 = 1 then (ax_gr T5 v0 9 16 fun a10 => ax_gi T5 a10 2 2 fun x11 => some (.inl x11, T5)) else (if v1 = 2 then (ax_gr T5 v0 9 16 fun a13 => ax_gi T5 a13 2 3 fun x14 => some (.inl x14, T5)) else (ax_gr T5 v0 9 16 fun a16 => ax_gi T5 a16 2 4 fun x17 => some (.inl x17, T5))))
def F_X9_fits_14 (N : Nat)  (v0 : Nat) (v1 : Int32) (w0 : Nat) (S : AxS) : Option (AxT Int32) :=
  F_X9_fits_15 N  v0 v1 0 w0 S
def F_X9_fits (N : Nat) (v0 : Nat) (v1 : Int32) (S : AxS) : Option (AxT Int32) :=
  if v1 < 0 then (F_X9_fits_14 N  v0 v1 v0 S) else (if 3 < v1 then (F_X9_fits_14 N  v0 v1 v0 S) else (F_X9_fits_15 N  v0 v1 1 v0 S))

def F_X9_count_15 (N : Nat)  (v0 : Nat) (v1 : Int32) (w0 : Int32) (w1 : Nat) (S : AxS) : Option (AxT Int32) :=
  ax_is S w1 9 <| axBT (F_X9_needArgument N w1 w0 S) fun _ T2 => ax_is T2 v0 9 <| axBV (F_X9_findFits N v0 T2) fun T5 => if v1 = 0 then (ax_gr T5 v0 9 16 fun a9 => ax_gi T5 a9 2 5 fun x10 => some (.inl x10, T5)) else (ax_gr T5 v0 9 16 fun a7 => ax_gi T5 a7 2 6 fun x8 => some (.inl x8, T5))
def F_X9_count_14 (N : Nat)  (v0 : Nat) (v1 : Int32) (w0 : Nat) (S : AxS) : Option (AxT Int32) :=
  F_X9_count_15 N  v0 v1 0 w0 S
def F_X9_count (N : Nat) (v0 : Nat) (v1 : Int32) (S : AxS) : Option (AxT Int32) :=
  if v1 < 0 then (F_X9_count_14 N  v0 v1 v0 S) else (if 1 < v1 then (F_X9_count_14 N  v0 v1 v0 S) else (F_X9_count_15 N  v0 v1 1 v0 S))

def F_X9_needReceipt_36 (N : Nat)  (w0 : Int32) (w1 : Nat) (S : AxS) : Option (AxT Unit) :=
  ax_is S w1 9 <| axBT (F_X9_needArgument N w1 w0 S) fun _ T2 => some (.inl (), T2)
def F_X9_needReceipt_35 (N : Nat)  (w0 : Nat) (S : AxS) : Option (AxT Unit) :=
  F_X9_needReceipt_36 N  0 w0 S
def F_X9_needReceipt (N : Nat) (v0 : Nat) (v1 : Int32) (v2 : Int32) (v3 : Int32) (S : AxS) : Option (AxT Unit) :=
  if v1 < 0 then (F_X9_needReceipt_35 N  v0 S) else (if 8 < v1 then (F_X9_needReceipt_35 N  v0 S) else (if v2 < 0 then (F_X9_needReceipt_35 N  v0 S) else (if 16 < v2 then (F_X9_needReceipt_35 N  v0 S) else (if v3 < 0 then (F_X9_needReceipt_35 N  v0 S) else (if 16 < v3 then (F_X9_needReceipt_35 N  v0 S) else (F_X9_needReceipt_36 N  1 v0 S))))))

def F_X9_choices_5b (N : Nat) (K5 : Int32 → Int32 → Int64 → Int32 → AxS → Option (Int64 × AxS)) (v0 : Int32) (v1 : Int32) (v2 : Int64) (v4 : Int32) (S : AxS) : Option (Int64 × AxS) :=
  if v1 < v4 then (some (v2, S)) else (ax_nel (Int32.toInt64 v4) <| K5 v0 v1 ((v2 * (Int32.toInt64 ((v0 + 1) - v4))) / (Int32.toInt64 v4)) (v4 + 1) S)
def F_X9_choices_5 (N : Nat)  : Nat → Int32 → Int32 → Int64 → Int32 → AxS → Option (Int64 × AxS) := axIter (fun KK => F_X9_choices_5b N KK) (fun _ _ _ _ _ => none)
def F_X9_choices (N : Nat) (v0 : Int32) (v1 : Int32) (S : AxS) : Option (Int64 × AxS) :=
  F_X9_choices_5 N  N v0 v1 1 1 S

def F_X9_power_5b (N : Nat) (K5 : Int32 → Int32 → Int64 → Int32 → AxS → Option (Int64 × AxS)) (v0 : Int32) (v1 : Int32) (v2 : Int64) (v4 : Int32) (S : AxS) : Option (Int64 × AxS) :=
  if v1 ≤ v4 then (some (v2, S)) else (K5 v0 v1 (v2 * (Int32.toInt64 v0)) (v4 + 1) S)
def F_X9_power_5 (N : Nat)  : Nat → Int32 → Int32 → Int64 → Int32 → AxS → Option (Int64 × AxS) := axIter (fun KK => F_X9_power_5b N KK) (fun _ _ _ _ _ => none)
def F_X9_power (N : Nat) (v0 : Int32) (v1 : Int32) (S : AxS) : Option (Int64 × AxS) :=
  F_X9_power_5 N  N v0 v1 1 0 S

def F_X9_dullWays_6b (N : Nat) (K6 : Int32 → Int32 → Int32 → Int64 → Int32 → AxS → Option (Int64 × AxS)) (v0 : Int32) (v1 : Int32) (v3 : Int32) (v4 : Int64) (v6 : Int32) (S : AxS) : Option (Int64 × AxS) :=
  if v3 ≤ v6 then (some (v4, S)) else (axB (F_X9_choices N v0 v6 S) fun x2 T1 => axB (F_X9_power N v1 v6 T1) fun x4 T3 => axB (F_X9_power N (16 - v1) (v0 - v6) T3) fun x6 T5 => K6 v0 v1 v3 (v4 + ((x2 * x4) * x6)) (v6 + 1) T5)
def F_X9_dullWays_6 (N : Nat)  : Nat → Int32 → Int32 → Int32 → Int64 → Int32 → AxS → Option (Int64 × AxS) := axIter (fun KK => F_X9_dullWays_6b N KK) (fun _ _ _ _ _ _ => none)
def F_X9_dullWays (N : Nat) (v0 : Int32) (v1 : Int32) (v2 : Int32) (v3 : Int32) (S : AxS) : Option (Int64 × AxS) :=
  F_X9_dullWays_6 N  N v0 v1 v3 0 v2 S

def F_X9_mistaken_146 (N : Nat)  (v6 : Int32) (v7 : Int64) (v9 : Int64) (S : AxS) : Option (AxT Int64) :=
  if v6 = 0 then (some (.inl v7, S)) else (some (.inl v9, S))
def F_X9_mistaken_99b (N : Nat) (K99 : Int32 → Int64 → Int64 → Int32 → AxS → Option (AxT Int64)) (v6 : Int32) (v7 : Int64) (v9 : Int64) (v11 : Int32) (S : AxS) : Option (AxT Int64) :=
  if 32 ≤ v11 then (F_X9_mistaken_146 N  v6 v7 v9 S) else (if (lg_cmp v9 1) ≤ 0 then (F_X9_mistaken_146 N  v6 v7 v9 S) else (ax_nel 2 <| if (lg_cmp (v7 - v7 / 2 * 2) 0) = 0 then (ax_nel 2 <| ax_nel 2 <| K99 v6 (v7 / 2) (v9 / 2) (v11 + 1) S) else (F_X9_mistaken_146 N  v6 v7 v9 S)))
def F_X9_mistaken_99 (N : Nat)  : Nat → Int32 → Int64 → Int64 → Int32 → AxS → Option (AxT Int64) := axIter (fun KK => F_X9_mistaken_99b N KK) (fun _ _ _ _ _ => none)
def F_X9_mistaken_86 (N : Nat)  (v1 : Int32) (v6 : Int32) (w0 : Int64) (S : AxS) : Option (AxT Int64) :=
  axB (F_X9_power N 16 v1 S) fun x2 T1 => F_X9_mistaken_99 N  N v6 w0 x2 0 T1
def F_X9_mistaken_57 (N : Nat)  (v1 : Int32) (v2 : Int32) (v3 : Int32) (v4 : Int32) (v5 : Int32) (v6 : Int32) (w0 : Int32) (w1 : Nat) (S : AxS) : Option (AxT Int64) :=
  ax_is S w1 9 <| axBT (F_X9_needArgument N w1 w0 S) fun _ T2 => if v5 = 0 then (axB (F_X9_dullWays N v1 v3 0 v4 T2) fun x7 T6 => F_X9_mistaken_86 N  v1 v6 x7 T6) else (axB (F_X9_dullWays N v1 v2 v4 (v1 + 1) T2) fun x5 T4 => F_X9_mistaken_86 N  v1 v6 x5 T4)
def F_X9_mistaken_56 (N : Nat)  (v1 : Int32) (v2 : Int32) (v3 : Int32) (v4 : Int32) (v5 : Int32) (v6 : Int32) (w0 : Nat) (S : AxS) : Option (AxT Int64) :=
  F_X9_mistaken_57 N  v1 v2 v3 v4 v5 v6 0 w0 S
def F_X9_mistaken_26 (N : Nat)  (v0 : Nat) (v1 : Int32) (v2 : Int32) (v3 : Int32) (v4 : Int32) (v5 : Int32) (v6 : Int32) (w0 : Int32) (w1 : Nat) (S : AxS) : Option (AxT Int64) :=
  ax_is S w1 9 <| axBT (F_X9_needArgument N w1 w0 S) fun _ T2 => if v5 < 0 then (F_X9_mistaken_56 N  v1 v2 v3 v4 v5 v6 v0 T2) else (if 1 < v5 then (F_X9_mistaken_56 N  v1 v2 v3 v4 v5 v6 v0 T2) else (if v6 < 0 then (F_X9_mistaken_56 N  v1 v2 v3 v4 v5 v6 v0 T2) else (if 1 < v6 then (F_X9_mistaken_56 N  v1 v2 v3 v4 v5 v6 v0 T2) else (F_X9_mistaken_57 N  v1 v2 v3 v4 v5 v6 1 v0 T2))))
def F_X9_mistaken_25 (N : Nat)  (v0 : Nat) (v1 : Int32) (v2 : Int32) (v3 : Int32) (v4 : Int32) (v5 : Int32) (v6 : Int32) (w0 : Nat) (S : AxS) : Option (AxT Int64) :=
  F_X9_mistaken_26 N  v0 v1 v2 v3 v4 v5 v6 0 w0 S
def F_X9_mistaken (N : Nat) (v0 : Nat) (v1 : Int32) (v2 : Int32) (v3 : Int32) (v4 : Int32) (v5 : Int32) (v6 : Int32) (S : AxS) : Option (AxT Int64) :=
  ax_is S v0 9 <| axBT (F_X9_needReceipt N v0 v1 v2 v3 S) fun _ T2 => if v4 < 0 then (F_X9_mistaken_25 N  v0 v1 v2 v3 v4 v5 v6 v0 T2) else (if (v1 + 1) < v4 then (F_X9_mistaken_25 N  v0 v1 v2 v3 v4 v5 v6 v0 T2) else (F_X9_mistaken_26 N  v0 v1 v2 v3 v4 v5 v6 1 v0 T2))

def F_X9_best_72 (N : Nat) (K18 : Int32 → Int32 → Int32 → Int32 → Int64 → Int32 → AxS → Option (AxT Int32)) (v1 : Int32) (v2 : Int32) (v3 : Int32) (v4 : Int32) (v5 : Int64) (v7 : Int32) (S : AxS) : Option (AxT Int32) :=
  K18 v1 v2 v3 v4 v5 (v7 + 1) S
def F_X9_best_64 (N : Nat) (K18 : Int32 → Int32 → Int32 → Int32 → Int64 → Int32 → AxS → Option (AxT Int32)) (v1 : Int32) (v2 : Int32) (v3 : Int32) (v7 : Int32) (v8 : Int64) (S : AxS) : Option (AxT Int32) :=
  F_X9_best_72 N K18 v1 v2 v3 v7 v8 v7 S
def F_X9_best_18b (N : Nat) (K18 : Int32 → Int32 → Int32 → Int32 → Int64 → Int32 → AxS → Option (AxT Int32)) (v1 : Int32) (v2 : Int32) (v3 : Int32) (v4 : Int32) (v5 : Int64) (v7 : Int32) (S : AxS) : Option (AxT Int32) :=
  if (v1 + 1) < v7 then (some (.inl v4, S)) else (axB (F_X9_dullWays N v1 v3 0 v7 S) fun x2 T1 => axB (F_X9_dullWays N v1 v2 v7 (v1 + 1) T1) fun x4 T3 => if (lg_cmp v5 ((-1))) = 0 then (F_X9_best_64 N K18 v1 v2 v3 v7 (x2 + x4) T3) else (if 0 ≤ (lg_cmp (x2 + x4) v5) then (F_X9_best_72 N K18 v1 v2 v3 v4 v5 v7 T3) else (F_X9_best_64 N K18 v1 v2 v3 v7 (x2 + x4) T3)))
def F_X9_best_18 (N : Nat)  : Nat → Int32 → Int32 → Int32 → Int32 → Int64 → Int32 → AxS → Option (AxT Int32) := axIter (fun KK => F_X9_best_18b N KK) (fun _ _ _ _ _ _ _ => none)
def F_X9_best (N : Nat) (v0 : Nat) (v1 : Int32) (v2 : Int32) (v3 : Int32) (S : AxS) : Option (AxT Int32) :=
  ax_is S v0 9 <| axBT (F_X9_needReceipt N v0 v1 v2 v3 S) fun _ T2 => F_X9_best_18 N  N v1 v2 v3 0 ((-1)) 0 T2

def F_J6_bitCount_0f7a4 (N : Nat) (v0 : Int32) (S : AxS) : Option (Int32 × AxS) :=
  some ((((((((v0 - ((axUshr v0 1) &&& 1431655765)) &&& 858993459) + ((axUshr (v0 - ((axUshr v0 1) &&& 1431655765)) 2) &&& 858993459)) + (axUshr (((v0 - ((axUshr v0 1) &&& 1431655765)) &&& 858993459) + ((axUshr (v0 - ((axUshr v0 1) &&& 1431655765)) 2) &&& 858993459)) 4)) &&& 252645135) + (axUshr (((((v0 - ((axUshr v0 1) &&& 1431655765)) &&& 858993459) + ((axUshr (v0 - ((axUshr v0 1) &&& 1431655765)) 2) &&& 858993459)) + (axUshr (((v0 - ((axUshr v0 1) &&& 1431655765)) &&& 858993459) + ((axUshr (v0 - ((axUshr v0 1) &&& 1431655765)) 2) &&& 858993459)) 4)) &&& 252645135) 8)) + (axUshr ((((((v0 - ((axUshr v0 1) &&& 1431655765)) &&& 858993459) + ((axUshr (v0 - ((axUshr v0 1) &&& 1431655765)) 2) &&& 858993459)) + (axUshr (((v0 - ((axUshr v0 1) &&& 1431655765)) &&& 858993459) + ((axUshr (v0 - ((axUshr v0 1) &&& 1431655765)) 2) &&& 858993459)) 4)) &&& 252645135) + (axUshr (((((v0 - ((axUshr v0 1) &&& 1431655765)) &&& 858993459) + ((axUshr (v0 - ((axUshr v0 1) &&& 1431655765)) 2) &&& 858993459)) + (axUshr (((v0 - ((axUshr v0 1) &&& 1431655765)) &&& 858993459) + ((axUshr (v0 - ((axUshr v0 1) &&& 1431655765)) 2) &&& 858993459)) 4)) &&& 252645135) 8)) 16)) &&& 63, S)

def F_X9_sleepWith_19 (N : Nat)  (v0 : Nat) (v2 : Int32) (v3 : Int32) (w0 : Int32) (S : AxS) : Option (Int32 × AxS) :=
  ax_gr S v0 9 18 fun a1 => axB (F_X9_at N a1 (v3 ||| (1 <<< (v2 &&& 31))) S) fun x3 T2 => some (w0 + x3, T2)
def F_X9_sleepWith (N : Nat) (v0 : Nat) (v1 : Int32) (v2 : Int32) (v3 : Int32) (v4 : Int32) (S : AxS) : Option (Int32 × AxS) :=
  ax_gr S v0 9 1 fun a1 => ax_is S a1 1 <| axB (F_X1_sleeps N a1 v1 v2 v4 S) fun x4 T3 => if x4 = 0 then (F_X9_sleepWith_19 N  v0 v2 v3 0 T3) else (F_X9_sleepWith_19 N  v0 v2 v3 1 T3)

def F_X9_leastBed_47 (N : Nat) (K3 : Nat → Int32 → Int32 → Int32 → Int32 → AxS → Option (Int32 × AxS)) (v0 : Nat) (v1 : Int32) (v2 : Int32) (v3 : Int32) (v4 : Int32) (S : AxS) : Option (Int32 × AxS) :=
  K3 v0 v1 v2 v3 (v4 + 1) S
def F_X9_leastBed_3b (N : Nat) (K3 : Nat → Int32 → Int32 → Int32 → Int32 → AxS → Option (Int32 × AxS)) (v0 : Nat) (v1 : Int32) (v2 : Int32) (v3 : Int32) (v4 : Int32) (S : AxS) : Option (Int32 × AxS) :=
  ax_gr S v0 9 1 fun a1 => ax_gi S a1 1 4 fun x2 => if x2 ≤ v4 then (some (0, S)) else (if ((v2 >>> (v4 &&& 31)) &&& 1) = 0 then (ax_is S v0 9 <| axB (F_X9_sleepWith N v0 v1 v4 v2 v3 S) fun x5 T4 => ax_gr T4 v0 9 18 fun a6 => axB (F_X9_at N a6 v2 T4) fun x8 T7 => if x5 = x8 then (some (v4, T7)) else (F_X9_leastBed_47 N K3 v0 v1 v2 v3 v4 T7)) else (F_X9_leastBed_47 N K3 v0 v1 v2 v3 v4 S))
def F_X9_leastBed_3 (N : Nat)  : Nat → Nat → Int32 → Int32 → Int32 → Int32 → AxS → Option (Int32 × AxS) := axIter (fun KK => F_X9_leastBed_3b N KK) (fun _ _ _ _ _ _ => none)
def F_X9_leastBed (N : Nat) (v0 : Nat) (v1 : Int32) (v2 : Int32) (v3 : Int32) (S : AxS) : Option (Int32 × AxS) :=
  F_X9_leastBed_3 N  N v0 v1 v2 v3 0 S

def F_X9_findBeds_112b (N : Nat) (K112 : Nat → Int32 → Int32 → Int32 → AxS → Option (AxS)) (v0 : Nat) (v1 : Int32) (v3 : Int32) (v4 : Int32) (S : AxS) : Option (AxS) :=
  ax_gr S v0 9 1 fun a1 => ax_gi S a1 1 5 fun x2 => if x2 ≤ v4 then (some S) else (ax_is S v0 9 <| axB (F_X9_leastBed N v0 v4 v3 v1 S) fun x5 T4 => ax_gr T4 v0 9 19 fun a6 => axBV (F_X9_put N a6 v4 x5 T4) fun T7 => K112 v0 v1 (v3 ||| (1 <<< (x5 &&& 31))) (v4 + 1) T7)
def F_X9_findBeds_112 (N : Nat)  : Nat → Nat → Int32 → Int32 → Int32 → AxS → Option (AxS) := axIter (fun KK => F_X9_findBeds_112b N KK) (fun _ _ _ _ _ => none)
def F_X9_findBeds_91 (N : Nat) (K19 : Nat → Int32 → Int32 → AxS → Option (AxS)) (v0 : Nat) (v1 : Int32) (v3 : Int32) (v5 : Int32) (S : AxS) : Option (AxS) :=
  ax_gr S v0 9 18 fun a1 => axBV (F_X9_put N a1 v3 v5 S) fun T2 => K19 v0 v1 (v3 + (-1)) T2
def F_X9_findBeds_85 (N : Nat) (K35 : Nat → Int32 → Int32 → Int32 → Int32 → Int32 → AxS → Option (AxS)) (v0 : Nat) (v1 : Int32) (v3 : Int32) (v4 : Int32) (v5 : Int32) (v6 : Int32) (S : AxS) : Option (AxS) :=
  K35 v0 v1 v3 v4 v5 (v6 + 1) S
def F_X9_findBeds_35b (N : Nat) (K19 : Nat → Int32 → Int32 → AxS → Option (AxS)) (K35 : Nat → Int32 → Int32 → Int32 → Int32 → Int32 → AxS → Option (AxS)) (v0 : Nat) (v1 : Int32) (v3 : Int32) (v4 : Int32) (v5 : Int32) (v6 : Int32) (S : AxS) : Option (AxS) :=
  ax_gr S v0 9 1 fun a1 => ax_gi S a1 1 4 fun x2 => if x2 ≤ v6 then (F_X9_findBeds_91 N K19 v0 v1 v3 v5 S) else (ax_gr S v0 9 1 fun a3 => ax_gi S a3 1 5 fun x4 => if x4 ≤ v4 then (F_X9_findBeds_91 N K19 v0 v1 v3 v5 S) else (if ((v3 >>> (v6 &&& 31)) &&& 1) = 0 then (ax_is S v0 9 <| axB (F_X9_sleepWith N v0 v4 v6 v3 v1 S) fun x7 T6 => axB (F_J9_max_7cf53 N v5 x7 T6) fun x9 T8 => F_X9_findBeds_85 N K35 v0 v1 v3 v4 x9 v6 T8) else (F_X9_findBeds_85 N K35 v0 v1 v3 v4 v5 v6 S)))
def F_X9_findBeds_35 (N : Nat) (K19 : Nat → Int32 → Int32 → AxS → Option (AxS)) : Nat → Nat → Int32 → Int32 → Int32 → Int32 → Int32 → AxS → Option (AxS) := axIter (fun KK => F_X9_findBeds_35b N K19 KK) (fun _ _ _ _ _ _ _ => none)
def F_X9_findBeds_19b (N : Nat) (K19 : Nat → Int32 → Int32 → AxS → Option (AxS)) (v0 : Nat) (v1 : Int32) (v3 : Int32) (S : AxS) : Option (AxS) :=
  if v3 < 0 then (F_X9_findBeds_112 N  N v0 v1 0 0 S) else (axB (F_J6_bitCount_0f7a4 N v3 S) fun x2 T1 => F_X9_findBeds_35 N K19 N v0 v1 v3 x2 0 0 T1)
def F_X9_findBeds_19 (N : Nat)  : Nat → Nat → Int32 → Int32 → AxS → Option (AxS) := axIter (fun KK => F_X9_findBeds_19b N KK) (fun _ _ _ _ => none)
def F_X9_findBeds (N : Nat) (v0 : Nat) (v1 : Int32) (S : AxS) : Option (AxS) :=
  ax_gr S v0 9 1 fun a1 => ax_gi S a1 1 4 fun x2 => axB (F_J9_min_7cf53 N x2 8 S) fun x4 T3 => F_X9_findBeds_19 N  N v0 v1 ((1 <<< (x4 &&& 31)) - 1) T3

def F_X9_beds_17 (N : Nat)  (v0 : Nat) (v1 : Int32) (w0 : Int32) (w1 : Nat) (S : AxS) : Option (AxT Int32) :=
  ax_is S w1 9 <| axBT (F_X9_needArgument N w1 w0 S) fun _ T2 => ax_is T2 v0 9 <| axBV (F_X9_findBeds N v0 v1 T2) fun T5 => ax_gr T5 v0 9 18 fun a7 => axB (F_X9_at N a7 0 T5) fun x9 T8 => some (.inl x9, T8)
def F_X9_beds_16 (N : Nat)  (v0 : Nat) (v1 : Int32) (w0 : Nat) (S : AxS) : Option (AxT Int32) :=
  F_X9_beds_17 N  v0 v1 0 w0 S
def F_X9_beds (N : Nat) (v0 : Nat) (v1 : Int32) (S : AxS) : Option (AxT Int32) :=
  if v1 < 0 then (F_X9_beds_16 N  v0 v1 v0 S) else (if 999 < v1 then (F_X9_beds_16 N  v0 v1 v0 S) else (F_X9_beds_17 N  v0 v1 1 v0 S))

def F_X9_bed_29 (N : Nat)  (v0 : Nat) (v1 : Int32) (v2 : Int32) (w0 : Int32) (w1 : Nat) (S : AxS) : Option (AxT Int32) :=
  ax_is S w1 9 <| axBT (F_X9_needArgument N w1 w0 S) fun _ T2 => ax_is T2 v0 9 <| axBV (F_X9_findBeds N v0 v2 T2) fun T5 => ax_gr T5 v0 9 19 fun a7 => axB (F_X9_at N a7 v1 T5) fun x9 T8 => some (.inl x9, T8)
def F_X9_bed_28 (N : Nat)  (v0 : Nat) (v1 : Int32) (v2 : Int32) (w0 : Nat) (S : AxS) : Option (AxT Int32) :=
  F_X9_bed_29 N  v0 v1 v2 0 w0 S
def F_X9_bed (N : Nat) (v0 : Nat) (v1 : Int32) (v2 : Int32) (S : AxS) : Option (AxT Int32) :=
  ax_gr S v0 9 1 fun a1 => ax_gi S a1 1 5 fun x2 => ax_is S v0 9 <| axBT (F_X9_needOne N v0 v1 x2 S) fun _ T4 => if v2 < 0 then (F_X9_bed_28 N  v0 v1 v2 v0 T4) else (if 999 < v2 then (F_X9_bed_28 N  v0 v1 v2 v0 T4) else (F_X9_bed_29 N  v0 v1 v2 1 v0 T4))

def F_X9_watch_105 (N : Nat) (K48 : Nat → Int32 → Int32 → Int32 → Int32 → AxS → Option (AxT Int32)) (v0 : Nat) (v1 : Int32) (v2 : Int32) (v3 : Int32) (v4 : Int32) (S : AxS) : Option (AxT Int32) :=
  K48 v0 v1 v2 v3 (v4 + 1) S
def F_X9_watch_102 (N : Nat) (K48 : Nat → Int32 → Int32 → Int32 → Int32 → AxS → Option (AxT Int32)) (v0 : Nat) (v1 : Int32) (v2 : Int32) (v3 : Int32) (v4 : Int32) (S : AxS) : Option (AxT Int32) :=
  F_X9_watch_105 N K48 v0 v1 v2 (v3 + 1) v4 S
def F_X9_watch_48b (N : Nat) (K48 : Nat → Int32 → Int32 → Int32 → Int32 → AxS → Option (AxT Int32)) (v0 : Nat) (v1 : Int32) (v2 : Int32) (v3 : Int32) (v4 : Int32) (S : AxS) : Option (AxT Int32) :=
  ax_gr S v0 9 1 fun a1 => ax_gi S a1 1 5 fun x2 => if x2 ≤ v4 then (ax_gr S v0 9 1 fun a3 => ax_gi S a3 1 5 fun x4 => ax_ne x4 <| ax_gr S v0 9 1 fun a5 => ax_gi S a5 1 5 fun x6 => ax_ne x6 <| if (v2 - v2 / x6 * x6) ≤ v3 then (some (.inl ((v2 / x4) + 0), S)) else (some (.inl ((v2 / x4) + 1), S))) else (ax_gr S v0 9 1 fun a7 => ax_gr S a7 1 10 fun a8 => axB (F_X9_at N a8 v4 S) fun x10 T9 => ax_gr T9 v0 9 1 fun a11 => ax_gr T9 a11 1 10 fun a12 => axB (F_X9_at N a12 v1 T9) fun x14 T13 => if 0 < (x10 - x14) then (F_X9_watch_102 N K48 v0 v1 v2 v3 v4 T13) else (if (x10 - x14) = 0 then (if v1 ≤ v4 then (F_X9_watch_105 N K48 v0 v1 v2 v3 v4 T13) else (F_X9_watch_102 N K48 v0 v1 v2 v3 v4 T13)) else (F_X9_watch_105 N K48 v0 v1 v2 v3 v4 T13)))
def F_X9_watch_48 (N : Nat)  : Nat → Nat → Int32 → Int32 → Int32 → Int32 → AxS → Option (AxT Int32) := axIter (fun KK => F_X9_watch_48b N KK) (fun _ _ _ _ _ _ => none)
def F_X9_watch_28 (N : Nat)  (v0 : Nat) (v1 : Int32) (v2 : Int32) (w0 : Int32) (w1 : Nat) (S : AxS) : Option (AxT Int32) :=
  ax_is S w1 9 <| axBT (F_X9_needArgument N w1 w0 S) fun _ T2 => ax_gr T2 v0 9 1 fun a4 => ax_gi T2 a4 1 5 fun x5 => if 0 < x5 then (F_X9_watch_48 N  N v0 v1 v2 0 0 T2) else (some (.inl 0, T2))
def F_X9_watch_27 (N : Nat)  (v0 : Nat) (v1 : Int32) (v2 : Int32) (w0 : Nat) (S : AxS) : Option (AxT Int32) :=
  F_X9_watch_28 N  v0 v1 v2 0 w0 S
def F_X9_watch (N : Nat) (v0 : Nat) (v1 : Int32) (v2 : Int32) (S : AxS) : Option (AxT Int32) :=
  ax_gr S v0 9 1 fun a1 => ax_gi S a1 1 5 fun x2 => ax_is S v0 9 <| axBT (F_X9_needOne N v0 v1 x2 S) fun _ T4 => if v2 < 0 then (F_X9_watch_27 N  v0 v1 v2 v0 T4) else (if 60 < v2 then (F_X9_watch_27 N  v0 v1 v2 v0 T4) else (F_X9_watch_28 N  v0 v1 v2 1 v0 T4))

def F_X9_setBids_16b (N : Nat) (K16 : Nat → Int32 → Int32 → Int32 → Int32 → AxS → Option (Int32 × AxS)) (v0 : Nat) (v2 : Int32) (v3 : Int32) (v4 : Int32) (v5 : Int32) (S : AxS) : Option (Int32 × AxS) :=
  if v5 < 0 then (some (v4, S)) else (if v2 ≤ 0 then (some (v4, S)) else (ax_gr S v0 9 17 fun a1 => ax_ne v2 <| axBV (F_X9_put N a1 v5 (v3 - v3 / v2 * v2) S) fun T2 => ax_gr T2 v0 9 17 fun a4 => axB (F_X9_at N a4 v5 T2) fun x6 T5 => ax_ne v2 <| K16 v0 v2 (v3 / v2) (v4 + (10 * x6)) (v5 + (-1)) T5))
def F_X9_setBids_16 (N : Nat)  : Nat → Nat → Int32 → Int32 → Int32 → Int32 → AxS → Option (Int32 × AxS) := axIter (fun KK => F_X9_setBids_16b N KK) (fun _ _ _ _ _ _ => none)
def F_X9_setBids (N : Nat) (v0 : Nat) (v1 : Int32) (v2 : Int32) (S : AxS) : Option (Int32 × AxS) :=
  ax_gr S v0 9 1 fun a1 => ax_gi S a1 1 6 fun x2 => F_X9_setBids_16 N  N v0 v2 v1 0 (x2 - 1) S

def F_X9_had (N : Nat) (v0 : Nat) (v1 : Int32) (v2 : Int32) (S : AxS) : Option (Int32 × AxS) :=
  ax_gr S v0 9 8 fun a1 => ax_gi S a1 5 0 fun x2 => if v2 ≤ x2 then (ax_gr S v0 9 17 fun a3 => axB (F_X9_at N a3 v1 S) fun x5 T4 => ax_gr T4 v0 9 1 fun a6 => ax_gr T4 a6 1 11 fun a7 => axB (F_X9_at N a7 v1 T4) fun x9 T8 => axB (F_J9_min_7cf53 N (10 * x5) x9 T8) fun x11 T10 => some (x11, T10)) else (some (0, S))

def F_X9_restsBy_57 (N : Nat) (K2 : Nat → Int32 → Int32 → Int32 → AxS → Option (Int32 × AxS)) (v0 : Nat) (v1 : Int32) (v2 : Int32) (v3 : Int32) (w0 : Int32) (S : AxS) : Option (Int32 × AxS) :=
  ax_is S v0 9 <| axB (F_X9_had N v0 v3 v1 S) fun x3 T2 => ax_gr T2 v0 9 1 fun a4 => ax_gr T2 a4 1 11 fun a5 => axB (F_X9_at N a5 v3 T2) fun x7 T6 => axB (F_J9_min_7cf53 N w0 x7 T6) fun x9 T8 => if x9 ≤ x3 then (K2 v0 v1 v2 (v3 + 1) T8) else (ax_rz 0 (some (0, T8)))
def F_X9_restsBy_2b (N : Nat) (K2 : Nat → Int32 → Int32 → Int32 → AxS → Option (Int32 × AxS)) (v0 : Nat) (v1 : Int32) (v2 : Int32) (v3 : Int32) (S : AxS) : Option (Int32 × AxS) :=
  ax_gr S v0 9 1 fun a1 => ax_gi S a1 1 6 fun x2 => if x2 ≤ v3 then (ax_rz 1 (some (1, S))) else (ax_gr S v0 9 8 fun a3 => ax_gi S a3 5 0 fun x4 => ax_gr S v0 9 17 fun a5 => axB (F_X9_at N a5 v3 S) fun x7 T6 => if 0 ≤ (x4 - (v1 - (10 * x7))) then (ax_ne 10 <| axB (F_J9_min_7cf53 N v2 ((x4 - (v1 - (10 * x7))) / 10) T6) fun x9 T8 => F_X9_restsBy_57 N K2 v0 v1 v2 v3 (10 * x9) T8) else (F_X9_restsBy_57 N K2 v0 v1 v2 v3 0 T6))
def F_X9_restsBy_2 (N : Nat)  : Nat → Nat → Int32 → Int32 → Int32 → AxS → Option (Int32 × AxS) := axIter (fun KK => F_X9_restsBy_2b N KK) (fun _ _ _ _ _ => none)
def F_X9_restsBy (N : Nat) (v0 : Nat) (v1 : Int32) (v2 : Int32) (S : AxS) : Option (Int32 × AxS) :=
  F_X9_restsBy_2 N  N v0 v1 v2 0 S

def F_X9_bidsAsDigits_4b (N : Nat) (K4 : Nat → Int32 → Int32 → AxS → Option (Int32 × AxS)) (v0 : Nat) (v1 : Int32) (v2 : Int32) (S : AxS) : Option (Int32 × AxS) :=
  ax_gr S v0 9 1 fun a1 => ax_gi S a1 1 6 fun x2 => if x2 ≤ v2 then (some (v1, S)) else (ax_gr S v0 9 17 fun a3 => axB (F_X9_at N a3 v2 S) fun x5 T4 => K4 v0 ((10 * v1) + x5) (v2 + 1) T4)
def F_X9_bidsAsDigits_4 (N : Nat)  : Nat → Nat → Int32 → Int32 → AxS → Option (Int32 × AxS) := axIter (fun KK => F_X9_bidsAsDigits_4b N KK) (fun _ _ _ _ => none)
def F_X9_bidsAsDigits (N : Nat) (v0 : Nat) (S : AxS) : Option (Int32 × AxS) :=
  F_X9_bidsAsDigits_4 N  N v0 0 0 S

def F_X9_hadTogether_4b (N : Nat) (K4 : Nat → Int32 → Int32 → Int32 → AxS → Option (Int32 × AxS)) (v0 : Nat) (v1 : Int32) (v2 : Int32) (v3 : Int32) (S : AxS) : Option (Int32 × AxS) :=
  ax_gr S v0 9 1 fun a1 => ax_gi S a1 1 6 fun x2 => if x2 ≤ v3 then (some (v2, S)) else (ax_is S v0 9 <| axB (F_X9_had N v0 v3 v1 S) fun x5 T4 => K4 v0 v1 (v2 + x5) (v3 + 1) T4)
def F_X9_hadTogether_4 (N : Nat)  : Nat → Nat → Int32 → Int32 → Int32 → AxS → Option (Int32 × AxS) := axIter (fun KK => F_X9_hadTogether_4b N KK) (fun _ _ _ _ _ => none)
def F_X9_hadTogether (N : Nat) (v0 : Nat) (v1 : Int32) (S : AxS) : Option (Int32 × AxS) :=
  F_X9_hadTogether_4 N  N v0 v1 0 0 S

def F_X9_heirs_107 (N : Nat) (K55 : Nat → Int32 → Int32 → Int32 → Int32 → Int32 → Int32 → Int32 → AxS → Option (AxT Int32)) (v0 : Nat) (v1 : Int32) (v2 : Int32) (v3 : Int32) (v4 : Int32) (v5 : Int32) (v6 : Int32) (v7 : Int32) (S : AxS) : Option (AxT Int32) :=
  K55 v0 v1 v2 v3 v4 v5 v6 (v7 + 1) S
def F_X9_heirs_104 (N : Nat) (K55 : Nat → Int32 → Int32 → Int32 → Int32 → Int32 → Int32 → Int32 → AxS → Option (AxT Int32)) (v0 : Nat) (v1 : Int32) (v2 : Int32) (v3 : Int32) (v4 : Int32) (v5 : Int32) (v6 : Int32) (v7 : Int32) (S : AxS) : Option (AxT Int32) :=
  F_X9_heirs_107 N K55 v0 v1 v2 v3 (v4 + 1) v5 v6 v7 S
def F_X9_heirs_55b (N : Nat) (K55 : Nat → Int32 → Int32 → Int32 → Int32 → Int32 → Int32 → Int32 → AxS → Option (AxT Int32)) (v0 : Nat) (v1 : Int32) (v2 : Int32) (v3 : Int32) (v4 : Int32) (v5 : Int32) (v6 : Int32) (v7 : Int32) (S : AxS) : Option (AxT Int32) :=
  if v3 ≤ v7 then (if v2 = 0 then (some (.inl v4, S)) else (if v2 = 1 then (some (.inl v5, S)) else (some (.inl v6, S)))) else (ax_is S v0 9 <| axB (F_X9_setBids N v0 v7 (v1 + 1) S) fun x5 T4 => ax_is T4 v0 9 <| axB (F_X9_restsBy N v0 x5 v1 T4) fun x8 T7 => if x8 = 0 then (F_X9_heirs_107 N K55 v0 v1 v2 v3 v4 v5 v6 v7 T7) else (if v4 = 0 then (ax_is T7 v0 9 <| axB (F_X9_bidsAsDigits N v0 T7) fun x11 T10 => ax_is T10 v0 9 <| axB (F_X9_hadTogether N v0 x5 T10) fun x14 T13 => F_X9_heirs_104 N K55 v0 v1 v2 v3 v4 x11 x14 v7 T13) else (F_X9_heirs_104 N K55 v0 v1 v2 v3 v4 v5 v6 v7 T7)))
def F_X9_heirs_55 (N : Nat)  : Nat → Nat → Int32 → Int32 → Int32 → Int32 → Int32 → Int32 → Int32 → AxS → Option (AxT Int32) := axIter (fun KK => F_X9_heirs_55b N KK) (fun _ _ _ _ _ _ _ _ _ => none)
def F_X9_heirs_25 (N : Nat)  (v0 : Nat) (v1 : Int32) (v2 : Int32) (w0 : Int32) (w1 : Nat) (S : AxS) : Option (AxT Int32) :=
  ax_is S w1 9 <| axBT (F_X9_needArgument N w1 w0 S) fun _ T2 => ax_gr T2 v0 9 1 fun a4 => ax_gi T2 a4 1 6 fun x5 => axB (F_X9_power N (v1 + 1) x5 T2) fun x7 T6 => F_X9_heirs_55 N  N v0 v1 v2 (Int64.toInt32 x7) 0 ((-1)) 0 0 T6
def F_X9_heirs_24 (N : Nat)  (v0 : Nat) (v1 : Int32) (v2 : Int32) (w0 : Nat) (S : AxS) : Option (AxT Int32) :=
  F_X9_heirs_25 N  v0 v1 v2 0 w0 S
def F_X9_heirs (N : Nat) (v0 : Nat) (v1 : Int32) (v2 : Int32) (S : AxS) : Option (AxT Int32) :=
  if v1 < 0 then (F_X9_heirs_24 N  v0 v1 v2 v0 S) else (if 9 < v1 then (F_X9_heirs_24 N  v0 v1 v2 v0 S) else (if v2 < 0 then (F_X9_heirs_24 N  v0 v1 v2 v0 S) else (if 2 < v2 then (F_X9_heirs_24 N  v0 v1 v2 v0 S) else (F_X9_heirs_25 N  v0 v1 v2 1 v0 S))))

def F_X9_sleepers_64 (N : Nat) (K24 : Nat → Int32 → Int32 → Int32 → AxS → Option (AxT Int32)) (v0 : Nat) (v1 : Int32) (v2 : Int32) (v3 : Int32) (S : AxS) : Option (AxT Int32) :=
  K24 v0 v1 v2 (v3 + 1) S
def F_X9_sleepers_24b (N : Nat) (K24 : Nat → Int32 → Int32 → Int32 → AxS → Option (AxT Int32)) (v0 : Nat) (v1 : Int32) (v2 : Int32) (v3 : Int32) (S : AxS) : Option (AxT Int32) :=
  ax_gr S v0 9 1 fun a1 => ax_gi S a1 1 5 fun x2 => if x2 ≤ v3 then (some (.inl v2, S)) else (ax_gr S v0 9 1 fun a3 => ax_gr S v0 9 8 fun a4 => ax_gr S a4 5 12 fun a5 => axB (F_X9_at N a5 v3 S) fun x7 T6 => ax_is T6 a3 1 <| axB (F_X1_sleeps N a3 v3 x7 v1 T6) fun x10 T9 => if x10 = 0 then (F_X9_sleepers_64 N K24 v0 v1 v2 v3 T9) else (F_X9_sleepers_64 N K24 v0 v1 (v2 ||| (1 <<< (v3 &&& 31))) v3 T9))
def F_X9_sleepers_24 (N : Nat)  : Nat → Nat → Int32 → Int32 → Int32 → AxS → Option (AxT Int32) := axIter (fun KK => F_X9_sleepers_24b N KK) (fun _ _ _ _ _ => none)
def F_X9_sleepers_17 (N : Nat)  (v0 : Nat) (v1 : Int32) (w0 : Int32) (w1 : Nat) (S : AxS) : Option (AxT Int32) :=
  ax_is S w1 9 <| axBT (F_X9_needArgument N w1 w0 S) fun _ T2 => F_X9_sleepers_24 N  N v0 v1 0 0 T2
def F_X9_sleepers_16 (N : Nat)  (v0 : Nat) (v1 : Int32) (w0 : Nat) (S : AxS) : Option (AxT Int32) :=
  F_X9_sleepers_17 N  v0 v1 0 w0 S
def F_X9_sleepers (N : Nat) (v0 : Nat) (v1 : Int32) (S : AxS) : Option (AxT Int32) :=
  if v1 < 0 then (F_X9_sleepers_16 N  v0 v1 v0 S) else (if 999 < v1 then (F_X9_sleepers_16 N  v0 v1 v0 S) else (F_X9_sleepers_17 N  v0 v1 1 v0 S))

def F_X9_bears_29b (N : Nat) (K29 : Nat → Int32 → Int32 → Int32 → Int32 → AxS → Option (AxT Int32)) (v0 : Nat) (v1 : Int32) (v2 : Int32) (v3 : Int32) (v4 : Int32) (S : AxS) : Option (AxT Int32) :=
  if 999 < v4 then (some (.inl v3, S)) else (ax_gr S v0 9 1 fun a1 => ax_is S a1 1 <| axB (F_X1_sleeps N a1 v1 v2 v4 S) fun x4 T3 => if x4 = 0 then (some (.inl v3, T3)) else (K29 v0 v1 v2 v4 (v4 + 1) T3))
def F_X9_bears_29 (N : Nat)  : Nat → Nat → Int32 → Int32 → Int32 → Int32 → AxS → Option (AxT Int32) := axIter (fun KK => F_X9_bears_29b N KK) (fun _ _ _ _ _ _ => none)
def F_X9_bears (N : Nat) (v0 : Nat) (v1 : Int32) (v2 : Int32) (S : AxS) : Option (AxT Int32) :=
  ax_gr S v0 9 1 fun a1 => ax_gi S a1 1 5 fun x2 => ax_is S v0 9 <| axBT (F_X9_needOne N v0 v1 x2 S) fun _ T4 => ax_gr T4 v0 9 1 fun a6 => ax_gi T4 a6 1 4 fun x7 => ax_is T4 v0 9 <| axBT (F_X9_needOne N v0 v2 x7 T4) fun _ T9 => F_X9_bears_29 N  N v0 v1 v2 0 0 T9

def F_X9_level_33b (N : Nat) (K22 : Nat → Int32 → Int32 → AxS → Option (AxT Int32)) (K33 : Nat → Int32 → Int32 → Int32 → Int32 → AxS → Option (AxT Int32)) (v0 : Nat) (v1 : Int32) (v2 : Int32) (v3 : Int32) (v4 : Int32) (S : AxS) : Option (AxT Int32) :=
  ax_gr S v0 9 1 fun a1 => ax_gi S a1 1 3 fun x2 => if x2 ≤ v4 then (if v3 < v1 then (K22 v0 v1 (v2 + 1) S) else (some (.inl v2, S))) else (ax_gr S v0 9 1 fun a3 => ax_gr S a3 1 8 fun a4 => axB (F_X9_at N a4 v4 S) fun x6 T5 => axB (F_J9_min_7cf53 N v2 x6 T5) fun x8 T7 => K33 v0 v1 v2 (v3 + x8) (v4 + 1) T7)
def F_X9_level_33 (N : Nat) (K22 : Nat → Int32 → Int32 → AxS → Option (AxT Int32)) : Nat → Nat → Int32 → Int32 → Int32 → Int32 → AxS → Option (AxT Int32) := axIter (fun KK => F_X9_level_33b N K22 KK) (fun _ _ _ _ _ _ => none)
def F_X9_level_22b (N : Nat) (K22 : Nat → Int32 → Int32 → AxS → Option (AxT Int32)) (v0 : Nat) (v1 : Int32) (v2 : Int32) (S : AxS) : Option (AxT Int32) :=
  if 20 < v2 then (some (.inl ((-1)), S)) else (F_X9_level_33 N K22 N v0 v1 v2 0 0 S)
def F_X9_level_22 (N : Nat)  : Nat → Nat → Int32 → Int32 → AxS → Option (AxT Int32) := axIter (fun KK => F_X9_level_22b N KK) (fun _ _ _ _ => none)
def F_X9_level_17 (N : Nat)  (v0 : Nat) (v1 : Int32) (w0 : Int32) (w1 : Nat) (S : AxS) : Option (AxT Int32) :=
  ax_is S w1 9 <| axBT (F_X9_needArgument N w1 w0 S) fun _ T2 => F_X9_level_22 N  N v0 v1 0 T2
def F_X9_level_16 (N : Nat)  (v0 : Nat) (v1 : Int32) (w0 : Nat) (S : AxS) : Option (AxT Int32) :=
  F_X9_level_17 N  v0 v1 0 w0 S
def F_X9_level (N : Nat) (v0 : Nat) (v1 : Int32) (S : AxS) : Option (AxT Int32) :=
  if v1 < 0 then (F_X9_level_16 N  v0 v1 v0 S) else (if 200 < v1 then (F_X9_level_16 N  v0 v1 v0 S) else (F_X9_level_17 N  v0 v1 1 v0 S))

def F_X9_image (N : Nat) (v0 : Nat) (S : AxS) : Option (Int32 × AxS) :=
  ax_gi S v0 9 12 fun x1 => if x1 < 0 then (some ((-1), S)) else (ax_gi S v0 9 12 fun x2 => ax_gr S v0 9 11 fun a3 => ax_len S a3 fun x4 => if x2 < x4 then (ax_gr S v0 9 11 fun a5 => ax_gi S v0 9 12 fun x6 => ax_ldr S a5 x6 fun a7 => ax_gr S v0 9 8 fun a8 => ax_gr S v0 9 10 fun a9 => ax_is S a7 3 <| axBV (F_X3_take N a7 a8 a9 S) fun T11 => ax_gi T11 v0 9 12 fun x13 => ax_pi T11 v0 9 12 (x13 + 1) fun T14 => ax_gi T14 v0 9 12 fun x15 => some (x15, T14)) else (some ((-1), S)))

def F_X9_restore (N : Nat) (v0 : Nat) (S : AxS) : Option (Int32 × AxS) :=
  ax_gi S v0 9 12 fun x1 => if x1 ≤ 0 then (some ((-1), S)) else (ax_gi S v0 9 12 fun x2 => ax_gr S v0 9 11 fun a3 => ax_len S a3 fun x4 => if x2 ≤ x4 then (ax_gi S v0 9 12 fun x5 => ax_pi S v0 9 12 (x5 - 1) fun T6 => ax_gr T6 v0 9 8 fun a7 => ax_gr T6 v0 9 11 fun a8 => ax_gi T6 v0 9 12 fun x9 => ax_ldr T6 a8 x9 fun a10 => ax_gr T6 a10 3 0 fun a11 => ax_is T6 a7 5 <| axBV (F_X5_take N a7 a11 T6) fun T13 => ax_gr T13 v0 9 10 fun a15 => ax_gr T13 v0 9 11 fun a16 => ax_gi T13 v0 9 12 fun x17 => ax_ldr T13 a16 x17 fun a18 => ax_gr T13 a18 3 1 fun a19 => ax_is T13 a15 8 <| axBV (F_X8_take N a15 a19 T13) fun T21 => ax_pi T21 v0 9 13 0 fun T23 => ax_gi T23 v0 9 12 fun x24 => some (x24, T23)) else (some ((-1), S)))

def F_X9_status (N : Nat) (v0 : Nat) (v1 : Int32) (S : AxS) : Option (Int32 × AxS) :=
  if v1 = 0 then (ax_gi S v0 9 14 fun x1 => some (x1, S)) else (if v1 = 1 then (ax_gi S v0 9 15 fun x3 => some (x3, S)) else (some ((-1), S)))

def F_X9_kept (N : Nat) (v0 : Nat) (v1 : Int32) (S : AxS) : Option (Int32 × AxS) :=
  if v1 = 0 then (ax_gi S v0 9 12 fun x1 => some (x1, S)) else (if v1 = 1 then (ax_gr S v0 9 0 fun a3 => ax_gi S a3 7 1 fun x4 => some (x4, S)) else (if v1 = 2 then (ax_gr S v0 9 10 fun a6 => ax_gi S a6 8 1 fun x7 => some (x7, S)) else (some ((-1), S))))
